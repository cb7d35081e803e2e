import java.util.function.Supplier;

/** Promises 20 to 27, judgments: each sentence that names a boundary, at it and on each side of it. */
public final class BoundaryJudgmentsTest {
    private static final int BAD = Boundary.BAD, NO = Boundary.NO, FULL = Boundary.FULL, NONE = Boundary.NONE;
    private static final int MOST = 3, JOIN = 4, TOP = 5, ROOF = 7, BAR = 8, AGAIN = 9, RATE = 10, GAP = 11, TERM = 12;
    private static final int DAYS = 2, SUM = 3, FINE = 4, PAID = 5, UNPAID = 6, UNPAID_DAYS = 7, STEP = 8, HOURS = 9;
    private static final int MANY = 10, SHARE = 11, FLAT_SHARE = 12, DUE = 13;

    private static void sentence(int promise, String words) {
        Boundary.sentence(promise, words);
    }

    private static void due(String what, int got, int want) {
        Boundary.due(what, got, want);
    }

    private static DayFines later(DayFines x, int days) {
        Boundary.go(x, days);
        return x;
    }

    // ---- promise 20

    /** So many judgments of person 0, and, if told, one deed more. */
    private static DayFines judgments(int many, boolean andDeed) {
        DayFines x = Boundary.court("days 1 sum 1 hours 1", 0, 0);
        for (int i = 0; i < many; i++) {
            x.deed(0, 0, 0, 1);
            x.judge(0);
        }
        if (andDeed) x.deed(0, 0, 0, 1);
        return x;
    }

    private static void p20_sixteen() {
        sentence(20, "A JUDGMENT (16 at most, numbered from 0)");
        due("the first", judgments(0, true).judge(0), 0);
        due("the 15th", judgments(14, true).judge(0), 14);
        due("the 16th", judgments(15, true).judge(0), 15);
        Boundary.refused("the 17th", () -> judgments(16, true), x -> x.judge(0), FULL);
        due("how many", judgments(16, true).count(3), 16);
        DayFines x = judgments(16, true);
        x.judge(0);
        due("its deed is in none", x.told(16, 5), NONE);
        due("one is in none", x.count(5), 1);
    }

    private static void p20_order() {
        sentence(20, "One more JUDGMENT: its number. BAD; NO: there is no LAW, no DEED that is in none; FULL.");
        Boundary.outside("person", 0, 4, Boundary::busy, DayFines::judge, BAD);
        due("person 0", Boundary.busy().judge(0), 3);
        due("the last person", Boundary.busy().judge(4), 3);
        Supplier<DayFines> lawless = () -> {
            DayFines x = Boundary.people(0, 1);
            x.deed(0, 0, 0, 1);
            x.custody(0, 5);
            return x;
        };
        Boundary.refused("no law", lawless, x -> x.judge(0), NO);
        Boundary.refused("no law, no deed", lawless, x -> x.judge(1), NO);
        Boundary.refused("no law, nobody", lawless, x -> x.judge(2), BAD);
        Boundary.refused("no deed at all", Boundary::busy, x -> x.judge(1), NO);
        Boundary.refused("all deeds are in one", Boundary::busy, x -> x.judge(3), NO);
        Boundary.refused("NO stands ahead of FULL", () -> judgments(16, false), x -> x.judge(0), NO);
        Boundary.refused("NO stands ahead of FULL, of another", () -> judgments(16, true), x -> x.judge(1), NO);
        Boundary.refused("BAD stands ahead of FULL", () -> judgments(16, true), x -> x.judge(2), BAD);
    }

    private static void p20_allDeeds() {
        sentence(20, "is of all DEEDS of that PERSON that are in none yet");
        DayFines x = Boundary.court("days 1 sum 1 hours 1", 0, 0);
        int[] owners = {0, 1, 0, 1, 0};
        for (int owner : owners) x.deed(0, owner, 0, 1);
        x.judge(0);
        int[] want = {0, NONE, 0, NONE, 0};
        for (int d = 0; d < 5; d++) due("deed " + d, x.told(d, 5), want[d]);
        due("how many", x.about(0, MANY), 3);
        x.deed(0, 0, 0, 1);
        x.judge(0);
        due("the new one alone", x.about(1, MANY), 1);
        due("the old one keeps its own", x.about(0, MANY), 3);
        due("in none", x.count(5), 2);
    }

    private static int joined(int join, int top, int... weights) {
        DayFines x = Boundary.court("days g sum 1 hours 1", 0);
        Boundary.widen(x);
        x.rule(JOIN, join);
        x.rule(TOP, top);
        for (int weight : weights) x.deed(0, 0, 0, weight);
        x.judge(0);
        return x.about(0, DAYS);
    }

    private static void p20_joined() {
        sentence(20, "JOINED: the greatest of these, and JOIN hundredths of each other one, each cut");
        due("one alone", joined(50, 9999, 7), 7);
        due("half of 1", joined(50, 9999, 7, 1), 7);
        due("half of 2", joined(50, 9999, 7, 2), 8);
        due("half of 3", joined(50, 9999, 7, 3), 8);
        due("half of 3 twice, each cut", joined(50, 9999, 7, 3, 3), 9);
        due("the greatest last", joined(50, 9999, 3, 3, 7), 9);
        due("the greatest between", joined(50, 9999, 3, 7, 3), 9);
        due("the greatest twice", joined(50, 9999, 7, 7), 10);
        due("the greatest three times", joined(50, 9999, 7, 7, 7), 13);
        due("JOIN 0", joined(0, 9999, 100, 100, 99), 100);
        due("JOIN 1 of 99", joined(1, 9999, 100, 99), 100);
        due("JOIN 1 of 100", joined(1, 9999, 100, 100), 101);
        due("JOIN 99 of 100", joined(99, 9999, 100, 100), 199);
        due("JOIN 99 of 1", joined(99, 9999, 100, 1), 100);
        due("JOIN 100", joined(100, 9999, 100, 1, 50), 151);
        DayFines bounded = Boundary.court("days g sum 1 hours 1", 0);
        bounded.rule(2, 10);
        bounded.rule(MOST, 20);
        bounded.deed(0, 0, 0, 1);
        bounded.deed(0, 0, 0, 15);
        bounded.deed(0, 0, 0, 100);
        bounded.judge(0);
        due("each within LEAST and MOST", bounded.about(0, DAYS), 20 + 7 + 5);
    }

    private static void p20_top() {
        sentence(20, "TOP at most");
        due("a day below", joined(100, 101, 60, 40), 100);
        due("as many", joined(100, 100, 60, 40), 100);
        due("a day above", joined(100, 99, 60, 40), 99);
        due("one alone above", joined(100, 59, 60), 59);
        due("one alone", joined(100, 60, 60), 60);
        due("TOP 0", joined(100, 0, 60), 0);
        int[] all = new int[30];
        java.util.Arrays.fill(all, 100);
        due("thirty", joined(100, 9999, all), 3000);
        due("thirty, a day above", joined(100, 2999, all), 2999);
        DayFines at9999 = Boundary.court("days 999 sum 1 hours 1", 0);
        Boundary.widen(at9999);
        at9999.rule(JOIN, 100);
        for (int i = 0; i < 11; i++) at9999.deed(0, 0, 0, 1);
        at9999.judge(0);
        due("11 times 999", at9999.about(0, DAYS), 9999);
    }

    private static void custody(int days, int custody, int wantDays, int wantLeft) {
        DayFines x = Boundary.court("days " + days + " sum 1 hours 1", 0, 0);
        Boundary.widen(x);
        if (custody > 0) x.custody(0, custody);
        x.custody(1, 3);
        x.deed(0, 0, 0, 1);
        x.judge(0);
        due(days + " days less " + custody, x.about(0, DAYS), wantDays);
        due("custody that is left", x.count(9), wantLeft + 3);
    }

    private static void p20_custody() {
        sentence(20, "CUSTODY that the PERSON has is taken off, as far as it goes, and is gone then: so many DAYS.");
        custody(50, 0, 50, 0);
        custody(50, 1, 49, 0);
        custody(50, 49, 1, 0);
        custody(50, 50, 0, 0);
        custody(50, 51, 0, 1);
        custody(50, 999, 0, 949);
        custody(0, 1, 0, 1);
        DayFines x = Boundary.court("days g sum 1 hours 1", 0);
        x.rule(TOP, 40);
        x.custody(0, 10);
        x.deed(0, 0, 0, 60);
        x.judge(0);
        due("taken off behind TOP", x.about(0, DAYS), 30);
        x.deed(0, 0, 0, 20);
        x.judge(0);
        due("gone then", x.about(1, DAYS), 20);
    }

    private static void p20_sum() {
        sentence(20, "SUM: what E of sum gives by FACTS of TODAY AS KNOWN TODAY, FLOOR at least, ROOF at most.");
        for (int from = 9; from <= 11; from++) {
            DayFines x = Boundary.court("days 1 sum i hours 1", 0);
            Boundary.widen(x);
            Boundary.go(x, 10);
            x.fact(0, 0, 1, 3000, from);
            x.deed(0, 0, 5, 1);
            x.judge(0);
            due("a fact from " + from, x.about(0, SUM), from <= 10 ? 3000 : 1000);
        }
        int[][] rows = {{9, 10}, {10, 10}, {11, 11}, {19, 19}, {20, 20}, {21, 20}};
        for (int[] row : rows) {
            DayFines x = Boundary.court("days 1 sum " + row[0] + " hours 1", 0);
            x.rule(6, 10);
            x.rule(ROOF, 20);
            x.deed(0, 0, 0, 1);
            x.judge(0);
            due(row[0] + " in 10 .. 20", x.about(0, SUM), row[1]);
            x.rule(ROOF, 8);
            x.deed(0, 0, 0, 1);
            x.judge(0);
            due("ROOF counts", x.about(1, SUM), 8);
        }
    }

    // ---- promise 21

    private static void p21_arguments() {
        sentence(21, "Of a JUDGMENT: what 0 PERSON, 1 its day, 2 DAYS, 3 SUM, 4 FINE, 5 PAID, 6 UNPAID coins, "
            + "7 UNPAID days, 8 its STEP, 9 HOURS that are left, 10 how many DEEDS, 11 SHARE, 12 SHARE of FLAT ones, "
            + "13 its DUE day. BAD.");
        Supplier<DayFines> busy = Boundary::busy;
        int[] want = {0, 0, 24, 101, 2424, 0, 2424, 24, 1, 0, 2, 808, 100, 365};
        for (int what = 0; what < 14; what++) {
            int asked = what;
            due("what " + what, Boundary.busy().about(0, what), want[what]);
            Boundary.unchanged("an answer", busy, x -> x.about(0, asked));
        }
        Boundary.outside("what", 0, 13, busy, (x, v) -> x.about(0, v), BAD);
        Boundary.range("judgment", 0, 2, busy, (x, v) -> x.about(v, 0), v -> v == 0 ? 0 : v == 1 ? 3 : 2);
        due("no judgment at all", Boundary.people(0).about(0, 0), BAD);
        Boundary.refused("neither judgment nor what", busy, x -> x.about(3, 14), BAD);
    }

    private static void p21_fine() {
        sentence(21, "FINE: DAYS times SUM");
        int[][] rows = {{0, 0}, {0, 9999}, {999, 0}, {1, 1}, {999, 9999}};
        for (int[] row : rows) {
            DayFines x = Boundary.judged(row[0], row[1]);
            due("days", x.about(0, DAYS), row[0]);
            due("sum", x.about(0, SUM), row[1]);
            due("fine", x.about(0, FINE), row[0] * row[1]);
            due("unpaid", x.about(0, UNPAID), row[0] * row[1]);
        }
        DayFines most = Boundary.court("days 999 sum 9999 hours 1", 0);
        Boundary.widen(most);
        most.rule(JOIN, 100);
        for (int i = 0; i < 11; i++) most.deed(0, 0, 0, 1);
        most.judge(0);
        due("the greatest", most.about(0, FINE), 9999 * 9999);
    }

    private static void p21_unpaid() {
        sentence(21, "UNPAID coins: FINE less what was PAID, 0 at least");
        int[][] rows = {{1, 499}, {499, 1}, {500, 0}, {501, 0}};
        for (int[] row : rows) {
            DayFines x = Boundary.judged(10, 50);
            x.pay(0, row[0]);
            due("unpaid of 500, paid " + row[0], x.about(0, UNPAID), row[1]);
        }
        for (int days = 3; days <= 5; days++) {
            DayFines x = Boundary.judged(10, 50);
            x.pay(0, 200);
            x.appeal(0, 0, days);
            due("paid 200 of " + 50 * days, x.about(0, UNPAID), Math.max(0, 50 * days - 200));
            due("paid stays", x.about(0, PAID), 200);
        }
    }

    private static void p21_unpaidDays() {
        sentence(21, "UNPAID days: these by SUM, rounded up (SUM 0: 0).");
        int[][] rows = {{1, 10}, {49, 10}, {50, 9}, {51, 9}, {99, 9}, {100, 8}, {449, 2}, {450, 1}, {451, 1}, {499, 1}, {500, 0}};
        for (int[] row : rows) {
            DayFines x = Boundary.judged(10, 50);
            x.pay(0, row[0]);
            due("paid " + row[0] + " of 10 days of 50", x.about(0, UNPAID_DAYS), row[1]);
        }
        due("sum 0", Boundary.judged(10, 0).about(0, UNPAID_DAYS), 0);
        due("sum 1", Boundary.judged(10, 1).about(0, UNPAID_DAYS), 10);
        due("days 0", Boundary.judged(0, 50).about(0, UNPAID_DAYS), 0);
        due("the most", Boundary.judged(999, 9999).about(0, UNPAID_DAYS), 999);
        DayFines none = Boundary.judged(10, 50);
        none.appeal(0, 1, 0);
        due("sum became 0", none.about(0, UNPAID_DAYS), 0);
        DayFines over = Boundary.judged(10, 50);
        over.pay(0, 500);
        over.appeal(0, 0, 1);
        due("over", over.about(0, UNPAID_DAYS), 0);
    }

    private static int share(int days, int sum, int earns) {
        DayFines x = Boundary.judged(days, sum);
        x.rule(0, earns);
        return x.about(0, SHARE);
    }

    private static void p21_share() {
        sentence(21, "times 1000 / what the PERSON EARNS (on its day AS KNOWN then; 1 at least), 9999999 at most");
        due("earns 0", share(2, 3, 0), 6000);
        due("earns 1", share(2, 3, 1), 6000);
        due("earns 2", share(2, 3, 2), 3000);
        due("earns 7: cut", share(2, 3, 7), 857);
        due("earns 5999", share(2, 3, 5999), 1);
        due("earns 6000", share(2, 3, 6000), 1);
        due("earns 6001", share(2, 3, 6001), 0);
        due("no fine", share(0, 3, 0), 0);
        due("9999998", share(793, 6343, 503), 9999998);
        due("10000000", share(4, 5000, 2), 9999999);
        due("the greatest", share(999, 9999, 0), 9999999);
        DayFines exact = Boundary.court("days 717 sum 4649 hours 1", 0);
        Boundary.widen(exact);
        exact.rule(JOIN, 100);
        for (int i = 0; i < 3; i++) exact.deed(0, 0, 0, 1);
        exact.judge(0);
        due("the fine", exact.about(0, FINE), 9999999);
        due("9999999", exact.about(0, SHARE), 9999999);
        exact.rule(0, 1001);
        due("a little less", exact.about(0, SHARE), 9990008);
        exact.rule(0, 999);
        due("a little more", exact.about(0, SHARE), 9999999);
    }

    private static void p21_shareThen() {
        sentence(21, "what the PERSON EARNS (on its day AS KNOWN then");
        for (int from = 9; from <= 11; from++) {
            for (int comes = 9; comes <= 11; comes++) {
                DayFines x = Boundary.court("days 10 sum 10 hours 1", 0);
                Boundary.go(x, 9);
                if (comes == 9) x.fact(0, 0, 0, 500, from);
                x.days(1);
                x.deed(0, 0, 0, 1);
                x.judge(0);
                if (comes == 10) x.fact(0, 0, 0, 500, from);
                x.days(1);
                if (comes == 11) x.fact(0, 0, 0, 500, from);
                boolean counts = from <= 10 && comes <= 10;
                due("a fact from " + from + " that comes on " + comes, x.about(0, SHARE), counts ? 200 : 100);
            }
        }
    }

    private static void p21_flat() {
        sentence(21, "(of FLAT ones: FLAT of all its DEEDS together)");
        DayFines x = Boundary.court("days 1 sum 1 hours 1", 0, 0);
        int[] flats = {1, 20, 300, 4000};
        for (int kind = 0; kind < 4; kind++) x.flat(kind, flats[kind]);
        for (int kind = 0; kind < 4; kind++) x.deed(kind, 0, 0, 1);
        x.deed(3, 0, 0, 1);
        x.deed(2, 1, 0, 1);
        x.judge(0);
        due("all kinds, the last twice", x.about(0, FLAT_SHARE), 8321);
        x.flat(3, 0);
        due("as FLAT is now", x.about(0, FLAT_SHARE), 321);
        x.judge(1);
        due("of the other one", x.about(1, FLAT_SHARE), 300);
        DayFines poor = Boundary.court("days 1 sum 1 hours 1", 0);
        poor.rule(0, 1);
        poor.deed(0, 0, 0, 1);
        poor.deed(1, 0, 0, 1);
        poor.judge(0);
        due("none at first", poor.about(0, FLAT_SHARE), 0);
        poor.flat(0, 9999);
        due("9999000", poor.about(0, FLAT_SHARE), 9999000);
        poor.flat(1, 1);
        due("10000000", poor.about(0, FLAT_SHARE), 9999999);
        poor.rule(0, 0);
        due("earns 1 at least", poor.about(0, FLAT_SHARE), 9999999);
        poor.flat(1, 0);
        due("earns 1 at least, below", poor.about(0, FLAT_SHARE), 9999000);
    }

    private static void p21_manyDeeds() {
        sentence(21, "10 how many DEEDS");
        for (int many : new int[] {1, 2, 29, 30}) {
            DayFines x = Boundary.court("days 1 sum 1 hours 1", 0);
            x.flat(1, 9999);
            for (int i = 0; i < many; i++) x.deed(1, 0, 0, 1);
            x.judge(0);
            due("deeds", x.about(0, MANY), many);
            due("share of flat ones", x.about(0, FLAT_SHARE), 9999 * many);
        }
    }

    private static void p21_due() {
        sentence(21, "each DUE TERM days behind its day");
        DayFines x = Boundary.court("days 1 sum 1 hours 1", 0);
        Boundary.go(x, 3000);
        x.deed(0, 0, 0, 1);
        x.judge(0);
        due("at first", x.about(0, DUE), 3365);
        for (int term : new int[] {0, 1, 2999, 3000}) {
            x.rule(TERM, term);
            due("TERM " + term, x.about(0, DUE), 3000 + term);
        }
    }

    // ---- promise 22

    private static DayFines forAppeal(int day) {
        DayFines x = Boundary.court("days 20 sum 50 hours u", 0);
        Boundary.go(x, 7);
        x.deed(0, 0, 0, 1);
        x.judge(0);
        return later(x, day);
    }

    private static void p22_bar() {
        sentence(22, "APPEALED may be each part once, up to BAR days behind the JUDGMENT");
        for (int part = 0; part <= 1; part++) {
            int which = part;
            int was = part == 0 ? 20 : 50;
            due("on its day", forAppeal(0).appeal(0, part, 5), was);
            due("29 days behind", forAppeal(29).appeal(0, part, 5), was);
            due("30 days behind", forAppeal(30).appeal(0, part, 5), was);
            Boundary.refused("31 days behind", () -> forAppeal(31), x -> x.appeal(0, which, 5), NO);
            for (int bar : new int[] {0, 1, 10}) {
                for (int behind = Math.max(0, bar - 1); behind <= bar + 1; behind++) {
                    DayFines x = forAppeal(behind);
                    x.rule(BAR, bar);
                    due(behind + " behind with BAR " + bar, x.appeal(0, part, 5), behind <= bar ? was : NO);
                }
            }
            DayFines x = forAppeal(0);
            due("once", x.appeal(0, part, 5), was);
            due("it is so", x.about(0, part == 0 ? DAYS : SUM), 5);
            due("twice", x.appeal(0, part, 5), NO);
            due("the other part", x.appeal(0, 1 - part, 5), 70 - was);
            Boundary.refused("twice", () -> {
                DayFines y = forAppeal(0);
                y.appeal(0, which, 5);
                return y;
            }, y -> y.appeal(0, which, 6), NO);
        }
    }

    private static void p22_values() {
        sentence(22, "DAYS becomes 0 .. MOST, or SUM 0 .. ROOF");
        Boundary.range("days", 0, 120, () -> forAppeal(0), (x, v) -> x.appeal(0, 0, v), v -> 20);
        Boundary.range("sum", 0, 1000, () -> forAppeal(0), (x, v) -> x.appeal(0, 1, v), v -> 50);
        Supplier<DayFines> narrow = () -> {
            DayFines x = forAppeal(0);
            x.rule(MOST, 1);
            x.rule(ROOF, 2);
            return x;
        };
        Boundary.range("days with MOST 1", 0, 1, narrow, (x, v) -> x.appeal(0, 0, v), v -> 20);
        Boundary.range("sum with ROOF 2", 0, 2, narrow, (x, v) -> x.appeal(0, 1, v), v -> 50);
        Boundary.range("days with MOST 999", 0, 999, () -> Boundary.judged(20, 50), (x, v) -> x.appeal(0, 0, v), v -> 20);
        Boundary.range("sum with ROOF 9999", 0, 9999, () -> Boundary.judged(20, 50), (x, v) -> x.appeal(0, 1, v), v -> 50);
        DayFines least = forAppeal(0);
        least.rule(2, 10);
        least.rule(6, 10);
        due("below LEAST", least.appeal(0, 0, 0), 20);
        due("below FLOOR", least.appeal(0, 1, 0), 50);
        due("no fine then", least.about(0, FINE), 0);
    }

    private static void p22_order() {
        sentence(22, "BAD: judgment, part, v; NO: too late, APPEALED before, TURNED.");
        Boundary.inside("judgment", 0, 1, Boundary::busy, (x, v) -> x.appeal(v, 1, 5), v -> v == 0 ? 101 : 139);
        Boundary.outside("judgment", 0, 2, Boundary::busy, (x, v) -> x.appeal(v, 1, 5), BAD);
        Boundary.range("part", 0, 1, () -> forAppeal(0), (x, v) -> x.appeal(0, v, 5), v -> v == 0 ? 20 : 50);
        Supplier<DayFines> late = () -> forAppeal(31);
        Boundary.refused("late: judgment", late, x -> x.appeal(1, 0, 5), BAD);
        Boundary.refused("late: part", late, x -> x.appeal(0, 2, 5), BAD);
        Boundary.refused("late: v", late, x -> x.appeal(0, 0, 121), BAD);
        Supplier<DayFines> turned = () -> Boundary.turned(20, 50);
        Boundary.refused("turned", turned, x -> x.appeal(0, 0, 5), NO);
        Boundary.refused("turned, sum", turned, x -> x.appeal(0, 1, 5), NO);
        Boundary.refused("turned: v", turned, x -> x.appeal(0, 1, 10000), BAD);
        DayFines warned = Boundary.judged(20, 50);
        warned.rule(GAP, 0);
        warned.step(0);
        warned.step(0);
        due("warned", warned.appeal(0, 0, 5), 20);
        Boundary.refused("appealed before: v", Boundary::busy, x -> x.appeal(1, 0, 121), BAD);
        Boundary.refused("appealed before", Boundary::busy, x -> x.appeal(1, 0, 120), NO);
    }

    // ---- promise 23

    private static DayFines forReopen(int behind) {
        DayFines x = Boundary.court("days 20 sum i/10 hours u", 0);
        Boundary.go(x, 7);
        x.deed(0, 0, 0, 1);
        x.judge(0);
        Boundary.go(x, behind);
        x.fact(0, 0, 1, 2000, 7);
        x.fact(0, 0, 1, 5000, 8);
        return x;
    }

    private static void p23_again() {
        sentence(23, "REOPENED may it be up to AGAIN days behind");
        due("on its day", forReopen(0).reopen(0), 200);
        due("399 days behind", forReopen(399).reopen(0), 200);
        due("400 days behind", forReopen(400).reopen(0), 200);
        Boundary.refused("401 days behind", () -> forReopen(401), x -> x.reopen(0), NO);
        for (int again : new int[] {0, 1, 10}) {
            for (int behind = Math.max(0, again - 1); behind <= again + 1; behind++) {
                DayFines x = forReopen(behind);
                x.rule(AGAIN, again);
                due(behind + " behind with AGAIN " + again, x.reopen(0), behind <= again ? 200 : NO);
            }
        }
        DayFines x = forReopen(5);
        due("once", x.reopen(0), 200);
        due("it is so", x.about(0, SUM), 200);
        due("twice", x.reopen(0), 200);
    }

    private static void p23_facts() {
        sentence(23, "SUM is worked out anew by FACTS of the JUDGMENT's day AS KNOWN TODAY (by THE LAW and rules as they are)");
        for (int from = 6; from <= 8; from++) {
            DayFines x = Boundary.court("days 20 sum i/10 hours u", 0);
            Boundary.go(x, 7);
            x.deed(0, 0, 0, 1);
            x.judge(0);
            Boundary.go(x, 3);
            x.fact(0, 0, 1, 2000, from);
            due("a fact from " + from, x.reopen(0), from <= 7 ? 200 : 100);
        }
        DayFines x = forReopen(5);
        x.rule(ROOF, 150);
        due("ROOF as it is", x.reopen(0), 150);
        x.rule(ROOF, 1000);
        x.rule(6, 250);
        due("FLOOR as it is", x.reopen(0), 250);
        x.rule(6, 0);
        Boundary.law(x, "days 1 sum i/20 hours u");
        due("the law as it is", x.reopen(0), 100);
        due("days stay", x.about(0, DAYS), 20);
    }

    private static void p23_order() {
        sentence(23, "It is REOPENED: SUM then. BAD; NO: too late, TURNED, there is no LAW.");
        Boundary.inside("judgment", 0, 1, Boundary::busy, DayFines::reopen, v -> v == 0 ? 201 : 139);
        Boundary.outside("judgment", 0, 2, Boundary::busy, DayFines::reopen, BAD);
        Boundary.refused("turned", () -> Boundary.turned(20, 50), x -> x.reopen(0), NO);
        Boundary.refused("turned, in time", Boundary::busy, x -> x.reopen(2), NO);
        Boundary.refused("late: judgment", () -> forReopen(401), x -> x.reopen(1), BAD);
        Boundary.refused("no judgment at all", () -> Boundary.people(0), x -> x.reopen(0), BAD);
        DayFines warned = Boundary.judged(20, 50);
        warned.rule(GAP, 0);
        warned.step(0);
        warned.step(0);
        due("warned", warned.reopen(0), 50);
    }

    // ---- promise 24

    private static void p24_coins() {
        sentence(24, "Coins (1 .. 9999999) are PAID, as many as are UNPAID: how many of them are not wanted (those are not PAID).");
        Boundary.range("coins", 1, 9999999, () -> Boundary.judged(10, 50), (x, v) -> x.pay(0, v), v -> Math.max(0, v - 500));
        Boundary.range("paid", 1, 9999999, () -> Boundary.judged(10, 50),
            (x, v) -> x.pay(0, v) == BAD ? BAD : x.about(0, PAID), v -> Math.min(v, 500));
        for (int coins = 499; coins <= 501; coins++) {
            DayFines x = Boundary.judged(10, 50);
            due("coins " + coins, x.pay(0, coins), Math.max(0, coins - 500));
            due("paid", x.about(0, PAID), Math.min(coins, 500));
            due("a coin more", x.pay(0, 1), coins < 500 ? 0 : 1);
            due("paid", x.about(0, PAID), 500);
        }
        DayFines over = Boundary.judged(10, 50);
        over.pay(0, 500);
        over.appeal(0, 0, 2);
        due("over", over.pay(0, 7), 7);
        due("paid", over.about(0, PAID), 500);
        DayFines nothing = Boundary.judged(0, 50);
        due("no fine", nothing.pay(0, 7), 7);
        due("paid", nothing.about(0, PAID), 0);
        DayFines most = Boundary.judged(999, 9999);
        due("all at once", most.pay(0, 9999999), 9999999 - 999 * 9999);
    }

    private static void p24_order() {
        sentence(24, "BAD; NO: TURNED.");
        Boundary.inside("judgment", 0, 1, Boundary::busy, (x, v) -> x.pay(v, 5), v -> v == 0 ? 0 : 5);
        Boundary.outside("judgment", 0, 2, Boundary::busy, (x, v) -> x.pay(v, 5), BAD);
        Boundary.refused("turned", Boundary::busy, x -> x.pay(2, 1), NO);
        Boundary.refused("turned: 0 coins", Boundary::busy, x -> x.pay(2, 0), BAD);
        Boundary.refused("turned: too many coins", Boundary::busy, x -> x.pay(2, 10000000), BAD);
        Boundary.refused("turned, the most", () -> Boundary.turned(10, 50), x -> x.pay(0, 9999999), NO);
        DayFines warned = Boundary.judged(10, 50);
        warned.rule(GAP, 0);
        warned.step(0);
        warned.step(0);
        due("warned", warned.pay(0, 501), 1);
    }

    // ---- promise 25

    /** So many coins are over, so many days behind the judgment. */
    private static DayFines over(int coins, int rate, int behind) {
        DayFines x = Boundary.court("days 999 sum 9999 hours 1", 0);
        Boundary.widen(x);
        Boundary.go(x, 3);
        x.deed(0, 0, 0, 1);
        x.judge(0);
        x.rule(BAR, 3000);
        x.rule(RATE, rate);
        if (coins > 0) x.pay(0, coins);
        Boundary.go(x, behind);
        x.appeal(0, 0, 0);
        return x;
    }

    private static void p25_interest() {
        sentence(25, "BACK comes OVER and OVER times RATE times the days since the JUDGMENT / 36500 (cut), and then PAID is FINE.");
        int[][] rows = {{36499, 1, 1, 36499}, {36500, 1, 1, 36501}, {36501, 1, 1, 36502}, {72999, 1, 1, 73000},
            {73000, 1, 1, 73002}, {364, 100, 1, 364}, {365, 100, 1, 366}, {1, 100, 364, 1}, {1, 100, 365, 2},
            {1, 100, 366, 2}, {100, 0, 2997, 100}, {100, 100, 0, 100}, {1, 0, 0, 1}};
        for (int[] row : rows) {
            DayFines x = over(row[0], row[1], row[2]);
            due(row[0] + " at " + row[1] + " for " + row[2] + " days", x.back(0), row[3]);
            due("paid", x.about(0, PAID), 0);
        }
        due("the most", over(9989001, 100, 2997).back(0), 9989001 + (int) (9989001L * 100 * 2997 / 36500));
        DayFines some = Boundary.judged(10, 50);
        some.pay(0, 500);
        some.appeal(0, 0, 9);
        due("50 are over", some.back(0), 50);
        due("paid is fine", some.about(0, PAID), 450);
        due("nothing is unpaid", some.about(0, UNPAID), 0);
    }

    private static void p25_none() {
        sentence(25, "OVER: what was PAID above FINE");
        for (int days = 3; days <= 5; days++) {
            DayFines x = Boundary.judged(10, 50);
            x.pay(0, 200);
            x.appeal(0, 0, days);
            due("paid 200 of " + 50 * days, x.back(0), days < 4 ? 50 : NO);
        }
        DayFines one = Boundary.judged(10, 50);
        one.pay(0, 51);
        one.appeal(0, 0, 1);
        due("one is over", one.back(0), 1);
        sentence(25, "What comes BACK. BAD; NO: nothing is OVER.");
        Boundary.refused("as much as the fine", () -> {
            DayFines x = Boundary.judged(10, 50);
            x.pay(0, 500);
            return x;
        }, x -> x.back(0), NO);
        Boundary.refused("nothing was paid", Boundary::busy, x -> x.back(0), NO);
        Boundary.refused("turned", Boundary::busy, x -> x.back(2), NO);
        Boundary.refused("once more", () -> {
            DayFines x = over(5, 4, 3);
            x.back(0);
            return x;
        }, x -> x.back(0), NO);
        Boundary.outside("judgment", 0, 2, Boundary::busy, DayFines::back, BAD);
        due("judgment 1", Boundary.busy().back(1), 139 * 21 + 139 * 21 * 4 * 29 / 36500);
    }

    // ---- promise 26

    private static void p26_gap() {
        sentence(26, "each next one TODAY, GAP days or more behind the one ahead (the JUDGMENT, of the first), while there are UNPAID coins");
        for (int step = 0; step < 3; step++) {
            for (int behind = 29; behind <= 31; behind++) {
                DayFines x = later(Boundary.judged(10, 50), 0);
                for (int i = 0; i < step; i++) later(x, 33).step(0);
                later(x, behind);
                due("step " + (step + 1) + ", " + behind + " behind", x.step(0), behind < 30 ? NO : step + 1);
                due("its step", x.about(0, STEP), behind < 30 ? step : step + 1);
            }
        }
        for (int gap = 0; gap <= 2; gap++) {
            for (int behind = 0; behind <= 3; behind++) {
                DayFines x = later(Boundary.judged(10, 50), behind);
                x.rule(GAP, gap);
                due(behind + " behind with GAP " + gap, x.step(0), behind < gap ? NO : 1);
            }
        }
        for (int behind = 29; behind <= 31; behind++) {
            DayFines x = forAppeal(behind);
            due("judged on day 7, " + behind + " behind", x.step(0), behind < 30 ? NO : 1);
            due("judged on day 7, next at once", x.step(0), NO);
        }
        Boundary.refused("too soon", () -> later(Boundary.judged(10, 50), 29), x -> x.step(0), NO);
        Boundary.refused("too soon behind the last", Boundary::busy, x -> x.step(0), NO);
    }

    private static DayFines paid(int coins, int steps) {
        DayFines x = Boundary.judged(10, 50);
        x.rule(GAP, 0);
        for (int i = 0; i < steps; i++) x.step(0);
        x.pay(0, coins);
        return x;
    }

    private static void p26_unpaid() {
        sentence(26, "while there are UNPAID coins");
        for (int steps = 0; steps < 3; steps++) {
            int done = steps;
            due("one is unpaid", paid(499, steps).step(0), steps + 1);
            Boundary.refused("none is unpaid", () -> paid(500, done), x -> x.step(0), NO);
        }
        DayFines over = paid(500, 0);
        over.appeal(0, 0, 1);
        due("over", over.step(0), NO);
        DayFines free = Boundary.judged(0, 50);
        free.rule(GAP, 0);
        due("no fine", free.step(0), NO);
    }

    private static void p26_order() {
        sentence(26, "The next STEP: its number. BAD; NO: it is TURNED, nothing is UNPAID, it is too soon, there is no LAW (of the third).");
        Boundary.outside("judgment", 0, 2, Boundary::busy, DayFines::step, BAD);
        Boundary.refused("turned", Boundary::busy, x -> x.step(2), NO);
        Boundary.refused("turned long ago", () -> later(Boundary.turned(10, 50), 100), x -> x.step(0), NO);
        DayFines x = Boundary.judged(10, 50);
        x.rule(GAP, 0);
        for (int i = 1; i <= 3; i++) {
            due("step", x.step(0), i);
            due("its step", x.about(0, STEP), i);
        }
        due("no fourth", x.step(0), NO);
        due("its step", x.about(0, STEP), 3);
    }

    private static int hours(String e, int kind, int coins) {
        DayFines x = Boundary.court("days 10 sum 50 hours " + e, kind);
        x.rule(GAP, 0);
        x.deed(0, 0, 0, 1);
        x.judge(0);
        if (coins > 0) x.pay(0, coins);
        x.step(0);
        x.step(0);
        due("no hours yet", x.about(0, HOURS), 0);
        x.step(0);
        return x.about(0, HOURS);
    }

    private static void p26_hours() {
        sentence(26, "As it is TURNED its HOURS are what E of hours gives, 0 .. 9999");
        int[][] rows = {{0, 0}, {1, 1}, {9998, 9998}, {9999, 9999}, {10000, 9999}, {99999, 9999}};
        for (int[] row : rows) due("hours of " + row[0], hours("" + row[0], 0, 0), row[1]);
        due("hours of -1", hours("0-1", 0, 0), 0);
        due("hours far below", hours("0-32768*65536", 0, 0), 0);
        due("unpaid days, all", hours("u", 0, 0), 10);
        due("unpaid days, a coin paid", hours("u", 0, 1), 10);
        due("unpaid days, 50 paid", hours("u", 0, 50), 9);
        due("unpaid days, a coin left", hours("u", 0, 499), 1);
        int[] young = {0, 1, 1, 0};
        for (int kind = 0; kind < 4; kind++) due("young, kind " + kind, hours("y*7", kind, 0), 7 * young[kind]);
        DayFines both = Boundary.court("days 10 sum 50 hours u+y*7", 1, 0);
        both.rule(GAP, 0);
        for (int p = 0; p < 2; p++) {
            both.deed(0, p, 0, 1);
            both.judge(p);
        }
        for (int i = 0; i < 6; i++) both.step(i / 3);
        due("of the young one", both.about(0, HOURS), 17);
        due("of the other one", both.about(1, HOURS), 10);
        DayFines later = Boundary.judged(10, 50);
        later.rule(GAP, 0);
        later.step(0);
        later.step(0);
        Boundary.law(later, "days 1 sum 1 hours 77");
        later.step(0);
        due("by the law as it is", later.about(0, HOURS), 77);
    }

    // ---- promise 27

    private static void p27_hours() {
        sentence(27, "HOURS (1 .. 9999) are WORKED: how many are left. BAD; NO: it is not TURNED, or there are not so many.");
        Supplier<DayFines> most = () -> {
            DayFines x = Boundary.court("days 10 sum 50 hours 9999", 0);
            x.rule(GAP, 0);
            x.deed(0, 0, 0, 1);
            x.judge(0);
            for (int i = 0; i < 3; i++) x.step(0);
            return x;
        };
        Boundary.range("hours", 1, 9999, most, (x, v) -> x.work(0, v), v -> 9999 - v);
        Supplier<DayFines> ten = () -> Boundary.turned(10, 50);
        due("9 of 10", ten.get().work(0, 9), 1);
        due("10 of 10", ten.get().work(0, 10), 0);
        Boundary.refused("11 of 10", ten, x -> x.work(0, 11), NO);
        Boundary.refused("9999 of 10", ten, x -> x.work(0, 9999), NO);
        Boundary.refused("10000 of 10", ten, x -> x.work(0, 10000), BAD);
        Boundary.refused("0 of 10", ten, x -> x.work(0, 0), BAD);
        DayFines x = ten.get();
        x.work(0, 4);
        due("left", x.about(0, HOURS), 6);
        due("7 of 6", x.work(0, 7), NO);
        due("6 of 6", x.work(0, 6), 0);
        due("1 of none", x.work(0, 1), NO);
        Boundary.refused("not turned", () -> paid(1, 2), y -> y.work(0, 1), NO);
        Boundary.refused("not turned: hours", () -> paid(1, 2), y -> y.work(0, 0), BAD);
        Boundary.outside("judgment", 0, 2, Boundary::busy, (y, v) -> y.work(v, 1), BAD);
        Boundary.refused("judgment 0 is not turned", Boundary::busy, y -> y.work(0, 1), NO);
        due("judgment 2", Boundary.busy().work(2, 1), 11 * 4);
    }

    public static void main(String[] args) {
        p20_sixteen();
        p20_order();
        p20_allDeeds();
        p20_joined();
        p20_top();
        p20_custody();
        p20_sum();
        p21_arguments();
        p21_fine();
        p21_unpaid();
        p21_unpaidDays();
        p21_share();
        p21_shareThen();
        p21_flat();
        p21_manyDeeds();
        p21_due();
        p22_bar();
        p22_values();
        p22_order();
        p23_again();
        p23_facts();
        p23_order();
        p24_coins();
        p24_order();
        p25_interest();
        p25_none();
        p26_gap();
        p26_unpaid();
        p26_order();
        p26_hours();
        p27_hours();
        Boundary.end(20, 27);
    }
}

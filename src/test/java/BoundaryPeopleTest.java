import java.util.function.Supplier;

/** Promises 1 to 10, people and facts: each sentence that names a boundary, at it and on each side of it. */
public final class BoundaryPeopleTest {
    private static final int BAD = Boundary.BAD, NO = Boundary.NO, FULL = Boundary.FULL, NONE = Boundary.NONE;
    private static final int NOTHING = Boundary.NOTHING, LOW = Boundary.LOW, HIGH = Boundary.HIGH;
    private static final int INCOME = 0, NEEDY = 1, WEALTH = 2, DEBT = 3, EARNS = 4;
    private static final int TOLD = 0, TAX = 1;

    private static void sentence(int promise, String words) {
        Boundary.sentence(promise, words);
    }

    private static void due(String what, int got, int want) {
        Boundary.due(what, got, want);
    }

    private static DayFines crowd(int many) {
        DayFines x = new DayFines();
        for (int i = 0; i < many; i++) x.person(i % 4);
        return x;
    }

    // ---- promise 1

    private static void p1_nobody() {
        sentence(1, "Nobody, no LAW.");
        DayFines x = new DayFines();
        for (int what = 0; what <= 9; what++) due("count " + what, x.count(what), 0);
        due("no person 0", x.is(0, 0), BAD);
        due("no deed 0", x.told(0, 0), BAD);
        due("no judgment 0", x.about(0, 0), BAD);
        due("no two alike", x.alike(0, 1), BAD);
        due("none unlike", x.unlike(), NONE);
        due("no law, for sum", Boundary.people(0).sum(0, 0, 0), NO);
        DayFines deed = Boundary.people(0);
        deed.deed(0, 0, 0, 1);
        due("no law, for worth", deed.worth(0), NO);
        due("no law, for judge", deed.judge(0), NO);
        due("no image", x.again(), NO);
    }

    private static void p1_todayIsZero() {
        sentence(1, "TODAY is 0 at first");
        due("today", new DayFines().count(8), 0);
        due("as known today", Boundary.people(0).known(0, INCOME, 0, 0), 1000);
        due("as known tomorrow", Boundary.people(0).known(0, INCOME, 0, 1), BAD);
        due("a deed today", Boundary.people(0).deed(0, 0, 0, 1), 0);
        due("a deed tomorrow", Boundary.people(0).deed(0, 0, 1, 1), BAD);
    }

    private static void p1_sheetsAreMissing() {
        sentence(1, "or MISSING (at first)");
        due("sheet 0", new DayFines().mark(0, 0, 0), NOTHING);
        due("sheet 1", new DayFines().mark(1, 0, 0), NOTHING);
    }

    // ---- promise 2

    private static void p2_twelvePeople() {
        sentence(2, "PEOPLE, 12 at most, numbered from 0");
        DayFines x = new DayFines();
        for (int i = 0; i < 12; i++) {
            due("person " + i, x.person(i % 4), i);
            due("how many", x.count(0), i + 1);
        }
        due("the thirteenth", x.person(0), FULL);
        due("how many", x.count(0), 12);
        Boundary.refused("the thirteenth", () -> crowd(12), y -> y.person(3), FULL);
    }

    private static void p2_kinds() {
        sentence(2, "KINDS 0 PERSON, 1 YOUNG, 2 STUDENT, under YOUNG, 3 OWNER (all are PEOPLE)");
        Boundary.range("kind", 0, 3, Boundary::busy, DayFines::person, v -> 5);
    }

    private static void p2_order() {
        sentence(2, "One more PERSON: the number. BAD; FULL.");
        due("of no kind, with room", crowd(11).person(4), BAD);
        due("of a kind, with room", crowd(11).person(3), 11);
        Boundary.refused("of no kind, without room", () -> crowd(12), x -> x.person(4), BAD);
        Boundary.refused("below the kinds, without room", () -> crowd(12), x -> x.person(-1), BAD);
    }

    // ---- promise 3

    private static void p3_kinds() {
        sentence(3, "2 STUDENT, under YOUNG");
        int[][] want = {{1, 0, 0, 0}, {1, 1, 0, 0}, {1, 1, 1, 0}, {1, 0, 0, 1}};
        DayFines x = Boundary.people(0, 1, 2, 3);
        for (int p = 0; p < 4; p++) {
            for (int k = 0; k < 4; k++) due("is(" + p + ", " + k + ")", x.is(p, k), want[p][k]);
        }
    }

    private static void p3_bad() {
        sentence(3, "Whether a PERSON is of a KIND: 1, 0. BAD.");
        Boundary.range("person", 0, 4, Boundary::busy, (x, v) -> x.is(v, 0), v -> 1);
        Boundary.range("kind", 0, 3, Boundary::busy, (x, v) -> x.is(2, v), v -> v < 3 ? 1 : 0);
        due("nobody at all", new DayFines().is(0, 0), BAD);
        Boundary.unchanged("an answer", Boundary::busy, x -> x.is(0, 0));
    }

    // ---- promise 4

    private static void p4_two() {
        sentence(4, "Two PEOPLE are a COUPLE: 1.");
        Boundary.range("person", 0, 3, () -> crowd(5), (x, v) -> x.couple(v, 4), v -> 1);
        Boundary.range("other", 1, 4, () -> crowd(5), (x, v) -> x.couple(0, v), v -> 1);
        DayFines x = crowd(12);
        for (int i = 0; i < 6; i++) {
            due("couple " + i, x.couple(i, 11 - i), 1);
            due("couples", x.count(4), i + 1);
        }
    }

    private static void p4_one() {
        sentence(4, "BAD: also if they are one");
        Boundary.refused("0 and 0", () -> crowd(2), x -> x.couple(0, 0), BAD);
        Boundary.refused("1 and 1", () -> crowd(2), x -> x.couple(1, 1), BAD);
        due("0 and 1", crowd(2).couple(0, 1), 1);
        due("1 and 0", crowd(2).couple(1, 0), 1);
    }

    private static void p4_coupled() {
        sentence(4, "NO: one is in a COUPLE.");
        Boundary.refused("the first is", Boundary::busy, x -> x.couple(1, 0), NO);
        Boundary.refused("the other is", Boundary::busy, x -> x.couple(0, 2), NO);
        Boundary.refused("both are", Boundary::busy, x -> x.couple(1, 2), NO);
        Boundary.refused("both are, turned about", Boundary::busy, x -> x.couple(2, 1), NO);
        due("none is", Boundary.busy().couple(0, 3), 1);
        Boundary.refused("BAD stands first: one", Boundary::busy, x -> x.couple(1, 1), BAD);
        Boundary.refused("BAD stands first: nobody", Boundary::busy, x -> x.couple(1, 5), BAD);
        Boundary.refused("BAD stands first: nobody ahead", Boundary::busy, x -> x.couple(-1, 1), BAD);
        DayFines parted = Boundary.busy();
        parted.part(2);
        due("none is any more", parted.couple(0, 1), 1);
        due("the other is free", parted.couple(3, 2), 1);
    }

    // ---- promise 5

    private static void p5_part() {
        sentence(5, "A COUPLE is none any more: who the other one was.");
        due("asked of one", Boundary.busy().part(1), 2);
        due("asked of the other", Boundary.busy().part(2), 1);
        DayFines x = Boundary.busy();
        x.part(1);
        due("couples", x.count(4), 0);
        due("what one earns is one's own", x.known(1, EARNS, 0, 0), 1000);
    }

    private static void p5_none() {
        sentence(5, "BAD; NO: there was none.");
        Boundary.refused("in none", Boundary::busy, x -> x.part(0), NO);
        DayFines x = Boundary.busy();
        x.part(1);
        due("once more", x.part(1), NO);
        due("of the other", x.part(2), NO);
        Boundary.outside("person", 0, 4, Boundary::busy, DayFines::part, BAD);
    }

    // ---- promise 6

    private static DayFines facts(int many) {
        DayFines x = Boundary.people(0, 3);
        for (int i = 0; i < many; i++) x.fact(0, WEALTH, TOLD, i, 0);
        return x;
    }

    private static void p6_ninetySix() {
        sentence(6, "FACTS, 96 at most");
        due("fact 95", facts(94).fact(0, INCOME, TOLD, 1, 0), 95);
        due("fact 96", facts(95).fact(0, INCOME, TOLD, 1, 0), 96);
        Boundary.refused("fact 97", () -> facts(96), x -> x.fact(0, INCOME, TOLD, 1, 0), FULL);
        Boundary.refused("fact 97 of another", () -> facts(96), x -> x.fact(1, WEALTH, TAX, 1, 0), FULL);
        due("how many", facts(97).count(1), 96);
    }

    private static void p6_order() {
        sentence(6, "BAD: person, what, source (1 of 1, 3, too), value, from; FULL.");
        Supplier<DayFines> full = () -> facts(96);
        Boundary.refused("person", full, x -> x.fact(2, INCOME, TOLD, 1, 0), BAD);
        Boundary.refused("what", full, x -> x.fact(0, 4, TOLD, 1, 0), BAD);
        Boundary.refused("source", full, x -> x.fact(0, INCOME, 2, 1, 0), BAD);
        Boundary.refused("source 1 of 1", full, x -> x.fact(0, NEEDY, TAX, 1, 0), BAD);
        Boundary.refused("value", full, x -> x.fact(0, INCOME, TOLD, -1, 0), BAD);
        Boundary.refused("from", full, x -> x.fact(0, INCOME, TOLD, 1, 3001), BAD);
    }

    private static void p6_person() {
        sentence(6, "BAD: person");
        Boundary.range("person", 0, 4, Boundary::busy, (x, v) -> x.fact(v, INCOME, TOLD, 1, 0), v -> 7);
    }

    private static void p6_what() {
        sentence(6, "WHAT 0 INCOME (a month), 1 NEEDY, 2 WEALTH, 3 DEBT (a month)");
        Boundary.range("what", 0, 3, Boundary::busy, (x, v) -> x.fact(0, v, TOLD, 1, 0), v -> 7);
    }

    private static void p6_source() {
        sentence(6, "TOLD (source 0) or by TAX (1; of INCOME and WEALTH alone)");
        Boundary.range("source of income", 0, 1, Boundary::busy, (x, v) -> x.fact(0, INCOME, v, 1, 0), v -> 7);
        Boundary.range("source of wealth", 0, 1, Boundary::busy, (x, v) -> x.fact(0, WEALTH, v, 1, 0), v -> 7);
        Boundary.range("source of needy", 0, 0, Boundary::busy, (x, v) -> x.fact(0, NEEDY, v, 1, 0), v -> 7);
        Boundary.range("source of debt", 0, 0, Boundary::busy, (x, v) -> x.fact(0, DEBT, v, 1, 0), v -> 7);
    }

    private static void p6_value() {
        sentence(6, "a VALUE 0 .. 99999 (NEEDY 0 .. 9)");
        for (int source = TOLD; source <= TAX; source++) {
            int by = source;
            Boundary.range("income", 0, 99999, Boundary::busy, (x, v) -> x.fact(0, INCOME, by, v, 0), v -> 7);
            Boundary.range("wealth", 0, 99999, Boundary::busy, (x, v) -> x.fact(0, WEALTH, by, v, 0), v -> 7);
        }
        Boundary.range("debt", 0, 99999, Boundary::busy, (x, v) -> x.fact(0, DEBT, TOLD, v, 0), v -> 7);
        Boundary.range("needy", 0, 9, Boundary::busy, (x, v) -> x.fact(0, NEEDY, TOLD, v, 0), v -> 7);
        DayFines x = Boundary.people(0);
        x.fact(0, DEBT, TOLD, 99999, 0);
        x.fact(0, NEEDY, TOLD, 9, 0);
        due("debt is kept whole", x.known(0, DEBT, 0, 0), 99999);
        due("needy is kept whole", x.known(0, NEEDY, 0, 0), 9);
    }

    private static void p6_from() {
        sentence(6, "that holds FROM a day (0 .. 3000) on");
        Boundary.range("from", 0, 3000, Boundary::busy, (x, v) -> x.fact(0, INCOME, TOLD, 1, v), v -> 7);
        int[] days = {0, 1, 2999, 3000};
        for (int from : days) {
            DayFines x = Boundary.people(0);
            x.fact(0, WEALTH, TOLD, 8, from);
            if (from > 0) due("a day ahead of " + from, x.known(0, WEALTH, from - 1, 0), 0);
            due("on " + from, x.known(0, WEALTH, from, 0), 8);
            if (from < 3000) due("a day behind " + from, x.known(0, WEALTH, from + 1, 0), 8);
        }
    }

    private static void p6_today() {
        sentence(6, "KNOWN since the day on which it comes");
        DayFines x = Boundary.people(0);
        Boundary.go(x, 10);
        x.fact(0, WEALTH, TOLD, 8, 0);
        Boundary.go(x, 1);
        due("a day ahead", x.known(0, WEALTH, 10, 9), 0);
        due("on the day", x.known(0, WEALTH, 10, 10), 8);
        due("a day behind", x.known(0, WEALTH, 10, 11), 8);
    }

    // ---- promise 7

    private static void p7_arguments() {
        sentence(7, "WHAT (0 .. 3), or what one EARNS (4), on a day (0 .. 3000) AS KNOWN on another one (0 .. TODAY). BAD.");
        Supplier<DayFines> busy = Boundary::busy;
        Boundary.range("what", 0, 4, busy, (x, v) -> x.known(4, v, 0, 0), v -> v == INCOME || v == EARNS ? 1000 : 0);
        Boundary.range("person", 0, 4, busy, (x, v) -> x.known(v, DEBT, 0, 0), v -> v == 1 ? 50 : 0);
        Boundary.range("day", 0, 3000, busy, (x, v) -> x.known(3, WEALTH, v, 0), v -> 99999);
        Boundary.range("as of", 0, 29, busy, (x, v) -> x.known(0, INCOME, 0, v), v -> v < 29 ? 3000 : 6000);
        DayFines last = Boundary.people(0);
        Boundary.go(last, 3000);
        due("as of 3000 on day 3000", last.known(0, INCOME, 3000, 3000), 1000);
        due("as of 3001 on day 3000", last.known(0, INCOME, 3000, 3001), BAD);
        for (int what = 0; what <= 4; what++) {
            int asked = what;
            Boundary.unchanged("an answer", busy, x -> x.known(0, asked, 0, 0));
        }
    }

    private static void p7_knownSince() {
        sentence(7, "of FACTS of it KNOWN since k at most and FROM d at most");
        DayFines x = Boundary.people(0, 0);
        Boundary.go(x, 20);
        x.fact(0, INCOME, TOLD, 11, 40);
        Boundary.go(x, 20);
        int[][] rows = {{39, 19, 1000}, {39, 20, 1000}, {39, 21, 1000}, {40, 19, 1000}, {40, 20, 11}, {40, 21, 11},
            {41, 19, 1000}, {41, 20, 11}, {41, 21, 11}};
        for (int[] row : rows) due("day " + row[0] + " as of " + row[1], x.known(0, INCOME, row[0], row[1]), row[2]);
        due("of the other one", x.known(1, INCOME, 40, 20), 1000);
    }

    private static void p7_tax() {
        sentence(7, "if there are some by TAX these alone");
        DayFines x = Boundary.people(0);
        x.fact(0, INCOME, TOLD, 10, 5);
        x.fact(0, INCOME, TAX, 20, 3);
        Boundary.go(x, 4);
        x.fact(0, INCOME, TAX, 30, 1);
        x.fact(0, INCOME, TOLD, 40, 6);
        due("ahead of all", x.known(0, INCOME, 0, 4), 1000);
        due("tax of 1 alone", x.known(0, INCOME, 1, 4), 30);
        due("tax of 1, not known yet", x.known(0, INCOME, 1, 3), 1000);
        due("tax of 3 is later", x.known(0, INCOME, 3, 4), 20);
        due("told of 5 does not count", x.known(0, INCOME, 5, 4), 20);
        due("told of 6 does not count", x.known(0, INCOME, 6, 4), 20);
        DayFines other = Boundary.people(0);
        other.fact(0, WEALTH, TAX, 20, 3);
        other.fact(0, INCOME, TOLD, 10, 5);
        due("tax of another WHAT", other.known(0, INCOME, 5, 0), 10);
        other.fact(0, INCOME, TAX, 0, 0);
        due("a tax of 0 is one", other.known(0, INCOME, 5, 0), 0);
        DayFines first = Boundary.people(0);
        first.fact(0, INCOME, TAX, 20, 3);
        first.fact(0, INCOME, TOLD, 10, 3);
        first.fact(0, INCOME, TOLD, 11, 5);
        due("tax came first, told later", first.known(0, INCOME, 5, 0), 20);
    }

    private static void p7_latest() {
        sentence(7, "that with the latest FROM, of several the one that came last; its VALUE.");
        DayFines x = Boundary.people(0);
        x.fact(0, DEBT, TOLD, 1, 7);
        x.fact(0, DEBT, TOLD, 2, 8);
        x.fact(0, DEBT, TOLD, 3, 7);
        x.fact(0, DEBT, TOLD, 4, 6);
        due("day 6", x.known(0, DEBT, 6, 0), 4);
        due("day 7: of two the last", x.known(0, DEBT, 7, 0), 3);
        due("day 8", x.known(0, DEBT, 8, 0), 2);
        due("day 9", x.known(0, DEBT, 9, 0), 2);
        x.fact(0, DEBT, TOLD, 5, 8);
        x.fact(0, DEBT, TOLD, 6, 8);
        due("of three the last", x.known(0, DEBT, 8, 0), 6);
        DayFines first = Boundary.people(0);
        first.fact(0, DEBT, TOLD, 1, 8);
        first.fact(0, DEBT, TOLD, 2, 7);
        due("the latest FROM came first", first.known(0, DEBT, 8, 0), 1);
        due("it does not hold yet", first.known(0, DEBT, 7, 0), 2);
        x.fact(0, WEALTH, TAX, 1, 7);
        x.fact(0, WEALTH, TAX, 2, 7);
        x.fact(0, WEALTH, TOLD, 3, 7);
        due("of two by tax the last", x.known(0, WEALTH, 7, 0), 2);
    }

    private static void p7_none() {
        sentence(7, "None: of INCOME GUESS (a rule), else 0.");
        DayFines x = Boundary.people(0);
        int[] guesses = {0, 1, 99998, 99999};
        for (int guess : guesses) {
            x.rule(0, guess);
            due("income", x.known(0, INCOME, 0, 0), guess);
            due("earns", x.known(0, EARNS, 0, 0), guess);
            for (int what = NEEDY; what <= DEBT; what++) due("what " + what, x.known(0, what, 0, 0), 0);
        }
        x.fact(0, INCOME, TOLD, 0, 1);
        due("none yet", x.known(0, INCOME, 0, 0), 99999);
        due("one of 0", x.known(0, INCOME, 1, 0), 0);
    }

    private static void p7_owner() {
        sentence(7, "EARNS is INCOME, of an OWNER WEALTH / 24 if that is more.");
        int[][] rows = {{0, 1000}, {24000, 1000}, {24023, 1000}, {24024, 1001}, {24047, 1001}, {24048, 1002}, {99999, 4166}};
        for (int[] row : rows) {
            for (int kind = 0; kind <= 3; kind++) {
                DayFines x = Boundary.people(kind);
                x.fact(0, WEALTH, TOLD, row[0], 0);
                due("kind " + kind + " with " + row[0], x.known(0, EARNS, 0, 0), kind == 3 ? row[1] : 1000);
                due("income is as it was", x.known(0, INCOME, 0, 0), 1000);
            }
        }
    }

    private static void p7_couple() {
        sentence(7, "then what one EARNS is half of what both would, together.");
        int[][] rows = {{0, 0, 0}, {0, 1, 0}, {1, 1, 1}, {1, 2, 1}, {2, 1, 1}, {2, 2, 2}, {99999, 99998, 99998}, {99999, 99999, 99999}};
        for (int[] row : rows) {
            DayFines x = Boundary.people(0, 0);
            x.fact(0, INCOME, TOLD, row[0], 0);
            x.fact(1, INCOME, TOLD, row[1], 0);
            x.couple(0, 1);
            due("one of " + row[0] + ", " + row[1], x.known(0, EARNS, 0, 0), row[2]);
            due("the other of " + row[0] + ", " + row[1], x.known(1, EARNS, 0, 0), row[2]);
            due("income stays", x.known(0, INCOME, 0, 0), row[0]);
        }
        DayFines owner = Boundary.people(3, 0);
        owner.fact(0, WEALTH, TOLD, 24 * 2001, 0);
        owner.fact(1, WEALTH, TOLD, 99999, 0);
        owner.couple(1, 0);
        due("each by its own kind", owner.known(1, EARNS, 0, 0), (2001 + 1000) / 2);
    }

    private static void p7_coupleThen() {
        sentence(7, "(All on d AS KNOWN on k.)");
        DayFines x = Boundary.people(0, 0);
        x.couple(0, 1);
        Boundary.go(x, 5);
        x.fact(1, INCOME, TAX, 3000, 8);
        due("not from then", x.known(0, EARNS, 7, 5), 1000);
        due("from then", x.known(0, EARNS, 8, 5), 2000);
        due("not known then", x.known(0, EARNS, 8, 4), 1000);
    }

    // ---- promise 8

    private static DayFines held(int days) {
        DayFines x = Boundary.people(0, 0);
        for (int left = days; left > 0; left -= 999) x.custody(0, Math.min(left, 999));
        return x;
    }

    private static void p8_more() {
        sentence(8, "CUSTODY of a PERSON is n (1 .. 999) days more: all of it.");
        Boundary.range("n", 1, 999, Boundary::busy, (x, v) -> x.custody(0, v), v -> v);
        Boundary.range("person", 0, 4, Boundary::busy, (x, v) -> x.custody(v, 10), v -> v == 4 ? 60 : 10);
        due("all of it", held(1998).custody(0, 2), 2000);
    }

    private static void p8_full() {
        sentence(8, "FULL: it would be above 9999.");
        due("up to 9998", held(9990).custody(0, 8), 9998);
        due("up to 9999", held(9990).custody(0, 9), 9999);
        Boundary.refused("up to 10000", () -> held(9990), x -> x.custody(0, 10), FULL);
        Boundary.refused("one more than all", () -> held(9999), x -> x.custody(0, 1), FULL);
        Boundary.refused("many more than all", () -> held(9999), x -> x.custody(0, 999), FULL);
        due("of another one", held(9999).custody(1, 999), 999);
        Boundary.refused("BAD stands first", () -> held(9999), x -> x.custody(0, 1000), BAD);
        Boundary.refused("BAD stands first, 0", () -> held(9999), x -> x.custody(0, 0), BAD);
        due("with 9000 up to 9999", held(9000).custody(0, 999), 9999);
        due("with 9001 up to 10000", held(9001).custody(0, 999), FULL);
    }

    // ---- promise 9

    private static void p9_days() {
        sentence(9, "n (1 .. 100) DAYS go: TODAY.");
        Boundary.range("n", 1, 100, Boundary::busy, DayFines::days, v -> 29 + v);
    }

    private static DayFines on(int day) {
        DayFines x = Boundary.busy();
        Boundary.go(x, day - 29);
        return x;
    }

    private static void p9_last() {
        sentence(9, "BAD: also if it would be above 3000.");
        due("up to 2999", on(2998).days(1), 2999);
        due("up to 3000", on(2999).days(1), 3000);
        Boundary.refused("up to 3001", () -> on(3000), x -> x.days(1), BAD);
        Boundary.refused("up to 3001 from 2999", () -> on(2999), x -> x.days(2), BAD);
        due("a hundred up to 3000", on(2900).days(100), 3000);
        Boundary.refused("a hundred up to 3001", () -> on(2901), x -> x.days(100), BAD);
        due("99 up to 3000", on(2901).days(99), 3000);
        Boundary.refused("far beyond", () -> on(3000), x -> x.days(HIGH), BAD);
        Boundary.refused("far below", () -> on(3000), x -> x.days(LOW), BAD);
    }

    // ---- promise 10

    private static void p10_rules() {
        String[] names = {"0 GUESS (0 .. 99999; 1000 at first)", "1 YEARS (0 .. 3000; 365)", "2 LEAST (0 .. 999; 1)",
            "3 MOST (0 .. 999; 120)", "4 JOIN (0 .. 100; 50)", "5 TOP (0 .. 9999; 240)", "6 FLOOR (0 .. 9999; 1)",
            "7 ROOF (0 .. 9999; 1000)", "8 BAR (0 .. 3000; 30)", "9 AGAIN (0 .. 3000; 400)", "10 RATE (0 .. 100; 4)",
            "11 GAP (0 .. 3000; 30)", "12 TERM (0 .. 3000; 365)", "13 NEED (0 .. 9999; 300)", "14 SHARE (0 .. 100; 50)",
            "15 SLACK (0 .. 9999; 0)"};
        int[] most = {99999, 3000, 999, 999, 100, 9999, 9999, 9999, 3000, 3000, 100, 3000, 3000, 9999, 100, 9999};
        int[] first = {1000, 365, 1, 120, 50, 240, 1, 1000, 30, 400, 4, 30, 365, 300, 50, 0};
        for (int i = 0; i < 16; i++) {
            int which = i;
            sentence(10, names[i]);
            Boundary.range("v", 0, most[i], Boundary::busy, (x, v) -> x.rule(which, v), v -> first[which]);
            Boundary.range("v, as it is then", 0, most[i], Boundary::busy, (x, v) -> {
                int was = x.rule(which, v);
                return was == BAD ? BAD : x.rule(which, 0);
            }, v -> v);
        }
    }

    private static void p10_which() {
        sentence(10, "A RULE becomes v: what it was. BAD.");
        Boundary.range("which", 0, 15, Boundary::busy, (x, v) -> x.rule(v, 0), v -> v == 0 ? 1000 : v == 1 ? 365 : v == 14 ? 50 : 0);
        Boundary.refused("neither which nor v", Boundary::busy, x -> x.rule(16, -1), BAD);
        DayFines x = new DayFines();
        due("was at first", x.rule(0, 5), 1000);
        due("was 5", x.rule(0, 5), 5);
        due("another one stays", x.rule(1, 5), 365);
    }

    public static void main(String[] args) {
        p1_nobody();
        p1_todayIsZero();
        p1_sheetsAreMissing();
        p2_twelvePeople();
        p2_kinds();
        p2_order();
        p3_kinds();
        p3_bad();
        p4_two();
        p4_one();
        p4_coupled();
        p5_part();
        p5_none();
        p6_ninetySix();
        p6_order();
        p6_person();
        p6_what();
        p6_source();
        p6_value();
        p6_from();
        p6_today();
        p7_arguments();
        p7_knownSince();
        p7_tax();
        p7_latest();
        p7_none();
        p7_owner();
        p7_couple();
        p7_coupleThen();
        p8_more();
        p8_full();
        p9_days();
        p9_last();
        p10_rules();
        p10_which();
        Boundary.end(1, 10);
    }
}

import java.util.function.Supplier;

/** Promises 37 to 42, images, sheets, counts: each sentence that names a boundary, at it and on each side of it. */
public final class BoundarySheetsTest {
    private static final int BAD = Boundary.BAD, NO = Boundary.NO, FULL = Boundary.FULL, NONE = Boundary.NONE;
    private static final int NOTHING = Boundary.NOTHING, INDEX = Boundary.INDEX, SIZE = Boundary.SIZE;
    private static final int LOW = Boundary.LOW, HIGH = Boundary.HIGH;

    private static void sentence(int promise, String words) {
        Boundary.sentence(promise, words);
    }

    private static void due(String what, int got, int want) {
        Boundary.due(what, got, want);
    }

    // ---- promises 37, 38

    private static DayFines kept() {
        DayFines x = Boundary.busy();
        x.keep();
        return x;
    }

    private static void p37_today() {
        sentence(37, "AN IMAGE is kept: TODAY.");
        due("on day 0", new DayFines().keep(), 0);
        DayFines x = Boundary.people(0);
        for (int day : new int[] {1, 2}) {
            x.days(1);
            due("on day " + day, x.keep(), day);
        }
        Boundary.go(x, 2997);
        due("on day 2999", x.keep(), 2999);
        x.days(1);
        due("on day 3000", x.keep(), 3000);
        due("once more", x.keep(), 3000);
        Boundary.unchanged("keep behind keep", BoundarySheetsTest::kept, DayFines::keep);
    }

    private static void p37_newer() {
        sentence(37, "all can become as it is (again and again)");
        DayFines x = Boundary.people(0);
        x.keep();
        x.days(5);
        due("the first", x.again(), 0);
        x.days(7);
        x.person(1);
        x.keep();
        x.days(9);
        x.person(1);
        for (int round = 0; round < 3; round++) {
            due("the newer one", x.again(), 7);
            due("people", x.count(0), 2);
            x.days(1 + round);
        }
    }

    private static void p38_none() {
        sentence(38, "All is as THE IMAGE: TODAY. NO: there is none.");
        Boundary.refused("none at first", DayFines::new, DayFines::again, NO);
        Boundary.refused("none with a court", () -> Boundary.judged(10, 50), DayFines::again, NO);
        DayFines x = Boundary.judged(10, 50);
        x.days(3);
        x.again();
        due("today stays", x.count(8), 3);
        due("keep", x.keep(), 3);
        due("there is one", x.again(), 3);
        DayFines empty = new DayFines();
        empty.keep();
        empty.person(0);
        due("an image of nobody", empty.again(), 0);
        due("nobody", empty.count(0), 0);
        due("nobody 0", empty.is(0, 0), BAD);
        due("the first", empty.person(3), 0);
    }

    private static void p38_all() {
        sentence(38, "AN IMAGE keeps all but SHEETS, numbers that wait, THE TAPE; all can become as it is (again and again).");
        Supplier<DayFines> story = BoundarySheetsTest::kept;
        Boundary.unchanged("at once", story, DayFines::again);
        Boundary.unchanged("days", story, x -> x.days(100) + x.again());
        Boundary.unchanged("person", story, x -> x.person(2) + x.again());
        Boundary.unchanged("couple", story, x -> x.couple(0, 3) + x.again());
        Boundary.unchanged("part", story, x -> x.part(1) + x.again());
        Boundary.unchanged("part and other couples", story, x -> x.part(1) + x.couple(1, 0) + x.couple(2, 3) + x.again());
        Boundary.unchanged("facts", story, x -> x.fact(0, 0, 1, 5, 0) + x.fact(4, 1, 0, 5, 0) + x.again());
        Boundary.unchanged("custody", story, x -> x.custody(0, 5) + x.custody(4, 5) + x.again());
        Boundary.unchanged("deeds", story, x -> x.deed(3, 1, 0, 5) + x.deed(3, 4, 0, 5) + x.again());
        Boundary.unchanged("judgments", story, x -> x.judge(0) + x.judge(4) + x.again());
        Boundary.unchanged("appeals", story, x -> x.appeal(0, 0, 3) + x.appeal(0, 1, 3) + x.appeal(1, 1, 3) + x.again());
        Boundary.unchanged("reopen", story, x -> x.reopen(0) + x.reopen(1) + x.again());
        Boundary.unchanged("pay and back", story, x -> x.pay(0, 77) + x.back(1) + x.again());
        Boundary.unchanged("steps", story, x -> x.days(40) + x.step(0) + x.days(40) + x.step(0) + x.again());
        Boundary.unchanged("work", story, x -> x.work(2, 7) + x.again());
        Boundary.unchanged("twice", story, x -> x.pay(0, 77) + x.again() + x.pay(0, 77) + x.person(0) + x.again());
        Boundary.unchanged("again and keep", story, x -> x.again() + x.keep());
        for (int i = 0; i < 16; i++) {
            int which = i;
            Boundary.unchanged("rule " + i, story, x -> x.rule(which, 99) + x.again());
        }
        for (int i = 0; i < 4; i++) {
            int kind = i;
            Boundary.unchanged("flat " + i, story, x -> x.flat(kind, 99) + x.again());
        }
        Boundary.unchanged("a law", () -> {
            DayFines x = kept();
            x.trim(0);
            return x;
        }, x -> Boundary.law(x, "days 33 sum 44 hours 55") + x.again());
    }

    private static void p38_everyRow() {
        sentence(38, "All is as THE IMAGE: TODAY.");
        DayFines x = Boundary.court("days g sum 7 hours 1", 0, 0);
        x.deed(0, 0, 0, 11);
        x.deed(0, 1, 0, 12);
        x.keep();
        x.judge(0);
        x.judge(1);
        x.again();
        due("the first deed is in none", x.told(0, 5), NONE);
        due("the last deed is in none", x.told(1, 5), NONE);
        due("deeds that are in none", x.count(5), 2);
        x.judge(0);
        x.judge(1);
        x.keep();
        for (int j = 0; j < 2; j++) {
            x.pay(j, 5);
            x.appeal(j, 0, 3);
            x.appeal(j, 1, 3);
        }
        x.again();
        for (int j = 0; j < 2; j++) {
            due("paid", x.about(j, 5), 0);
            due("days", x.about(j, 2), 11 + j);
            due("sum", x.about(j, 3), 7);
            due("DAYS are not appealed", x.appeal(j, 0, 3), 11 + j);
            due("SUM is not appealed", x.appeal(j, 1, 3), 7);
        }
    }

    private static void p38_butSheets() {
        sentence(38, "AN IMAGE keeps all but SHEETS, numbers that wait, THE TAPE");
        DayFines x = new DayFines();
        x.person(0);
        x.sheet(0, 2);
        x.tell(1);
        x.feed(0, 0, 0);
        x.keep();
        x.mark(0, 1, 9);
        x.sheet(1, 1);
        x.tell(2);
        x.feed(0, 0, 0);
        x.again();
        due("sheet 0 stays", x.mark(0, 1, 0), 9);
        due("sheet 1 stays", x.mark(1, 0, 0), 0);
        due("numbers stay", x.count(6), 2);
        due("bytes stay", x.count(7), 24);
        x.check(0);
        x.trim(0);
        x.sheet(0, 0);
        x.again();
        due("no numbers", x.count(6), 0);
        due("no bytes", x.count(7), 0);
        due("no places", x.mark(0, 0, 0), INDEX);
    }

    private static void p38_fullAndBack() {
        sentence(38, "all can become as it is");
        DayFines x = Boundary.court("days g sum 1 hours 1", 0);
        x.fact(0, 0, 0, 77, 0);
        x.keep();
        for (int i = 0; i < 11; i++) x.person(1);
        for (int i = 0; i < 95; i++) x.fact(1 + i % 11, 0, 0, i, 0);
        for (int i = 0; i < 30; i++) x.deed(3, i % 12, 0, 50);
        for (int p = 0; p < 12; p++) x.judge(p);
        x.couple(0, 1);
        x.custody(1, 77);
        x.pay(0, 30);
        x.appeal(0, 0, 99);
        x.appeal(0, 1, 99);
        x.rule(11, 0);
        for (int i = 0; i < 3; i++) x.step(0);
        due("hours", x.about(0, 9), 1);
        due("full", x.person(0), FULL);
        due("back", x.again(), 0);
        int[] want = {1, 1, 0, 0, 0, 0, 0, 0, 0, 0};
        for (int what = 0; what < 10; what++) due("count " + what, x.count(what), want[what]);
        due("a new one", x.person(0), 1);
        due("of its own kind", x.is(1, 1), 0);
        due("in no couple", x.couple(0, 1), 1);
        due("without facts", x.known(1, 0, 0, 0), 1000);
        due("without custody", x.custody(1, 1), 1);
        due("a new deed", x.deed(0, 1, 0, 5), 0);
        due("in no judgment", x.told(0, 5), NONE);
        due("a new judgment", x.judge(1), 0);
        int[] about = {1, 0, 4, 1, 4, 0, 4, 4, 0, 0, 1};
        for (int what = 0; what <= 10; what++) due("about " + what, x.about(0, what), about[what]);
        due("DAYS are not appealed", x.appeal(0, 0, 3), 4);
        due("SUM is not appealed", x.appeal(0, 1, 3), 1);
    }

    private static DayFines keptFull() {
        DayFines x = Boundary.full();
        x.keep();
        return x;
    }

    private static void p38_full() {
        sentence(38, "AN IMAGE keeps all but SHEETS, numbers that wait, THE TAPE");
        int[] want = {12, 96, 30, 16, 6, 1, 30, 120, 0, 0};
        for (int what = 0; what < 10; what++) {
            due("count " + what + " of a full court", Boundary.full().count(what), want[what]);
            due("count " + what + " of its image", backFromFull().count(what), want[what]);
        }
        Supplier<DayFines> full = BoundarySheetsTest::keptFull;
        Boundary.unchanged("at once", full, DayFines::again);
        Boundary.unchanged("parted", full, x -> x.part(11) + x.part(0) + x.again());
        Boundary.unchanged("the first and the last judgment", full, x -> x.pay(0, 1) + x.pay(15, 1) + x.again());
        Boundary.unchanged("appealed", full, x -> x.appeal(0, 0, 1) + x.appeal(15, 1, 1) + x.again());
        sentence(37, "AN IMAGE keeps all but SHEETS, numbers that wait, THE TAPE");
        Boundary.unchanged("keep behind keep", full, DayFines::keep);
        Supplier<DayFines> court = Boundary::full;
        sentence(2, "PEOPLE, 12 at most");
        Boundary.refused("person", court, x -> x.person(0), FULL);
        sentence(6, "FACTS, 96 at most");
        Boundary.refused("fact", court, x -> x.fact(0, 0, 0, 1, 0), FULL);
        sentence(11, "DEEDS, 30 at most");
        Boundary.refused("deed", court, x -> x.deed(0, 0, 0, 1), FULL);
        sentence(15, "FULL: it would have more than 120.");
        Boundary.refused("feed", court, x -> x.feed(0, 0, 0), FULL);
        sentence(20, "A JUDGMENT (16 at most, numbered from 0)");
        Boundary.refused("judge", court, x -> x.judge(11), FULL);
        Boundary.refused("judge, no deed", court, x -> x.judge(3), NO);
        sentence(31, "FULL: 30 wait.");
        Boundary.refused("tell", court, x -> x.tell(0), FULL);
    }

    private static DayFines backFromFull() {
        DayFines x = keptFull();
        x.days(1);
        x.again();
        return x;
    }

    // ---- promise 39

    private static void p39_places() {
        sentence(39, "SHEETS 0, 1 are rows of ints with 0 to 24 places");
        Boundary.range("sheet", 0, 1, Boundary::busy, (x, v) -> x.sheet(v, 5), v -> 5);
        for (int s = 0; s <= 1; s++) {
            int sheet = s;
            Boundary.inside("n", 0, 24, Boundary::busy, (x, v) -> x.sheet(sheet, v), v -> v);
            for (int n : new int[] {25, 26, HIGH - 1, HIGH}) {
                Boundary.refused("n " + n, Boundary::busy, x -> x.sheet(sheet, n), BAD);
                Boundary.refused("n " + n + ", missing", () -> Boundary.people(0), x -> x.sheet(sheet, n), BAD);
            }
            for (int n : new int[] {-1, -2, LOW + 1, LOW}) {
                Boundary.refused("n " + n, Boundary::busy, x -> x.sheet(sheet, n), SIZE);
                Boundary.refused("n " + n + ", missing", () -> Boundary.people(0), x -> x.sheet(sheet, n), SIZE);
            }
        }
        sentence(39, "BAD: sheet, n above 24; SIZE.");
        Boundary.refused("BAD stands first", Boundary::busy, x -> x.sheet(2, -1), BAD);
        Boundary.refused("BAD stands first, below", Boundary::busy, x -> x.sheet(-1, -1), BAD);
        Boundary.refused("both are BAD", Boundary::busy, x -> x.sheet(2, 25), BAD);
        sentence(39, "SIZE: a number of places is below 0");
        due("0", Boundary.busy().sheet(0, 0), 0);
        due("-1", Boundary.busy().sheet(0, -1), SIZE);
    }

    private static void p39_zeros() {
        sentence(39, "A SHEET has n places, all 0: n.");
        for (int n : new int[] {0, 1, 2, 23, 24}) {
            DayFines x = new DayFines();
            x.sheet(0, 24);
            for (int i = 0; i < 24; i++) x.mark(0, i, 7);
            x.sheet(1, 24);
            for (int i = 0; i < 24; i++) x.mark(1, i, 8);
            due("anew", x.sheet(0, n), n);
            for (int i = 0; i < n; i++) due("place " + i + " of " + n, x.mark(0, i, 5), 0);
            due("no place " + n, x.mark(0, n, 0), INDEX);
            for (int i = 0; i < 24; i++) due("the other one stays", x.mark(1, i, 8), 8);
            x.sheet(0, 24);
            for (int i = 0; i < 24; i++) due("grown anew, place " + i, x.mark(0, i, 5), 0);
        }
    }

    // ---- promise 40

    private static void p40_places() {
        sentence(40, "A place of a SHEET becomes v: what it was. BAD: sheet; NOTHING; INDEX.");
        Boundary.inside("place of 24", 0, 23, Boundary::busy, (x, v) -> x.mark(0, v, 9), v -> v <= 1 ? 5 : 0);
        Boundary.outside("place of 24", 0, 23, Boundary::busy, (x, v) -> x.mark(0, v, 9), INDEX);
        Boundary.inside("place of 3", 0, 2, Boundary::busy, (x, v) -> x.mark(1, v, 9), v -> v == 2 ? -9 : 0);
        Boundary.outside("place of 3", 0, 2, Boundary::busy, (x, v) -> x.mark(1, v, 9), INDEX);
        for (int s = 0; s <= 1; s++) {
            int sheet = s;
            Supplier<DayFines> empty = () -> {
                DayFines x = Boundary.people(0);
                x.sheet(sheet, 0);
                return x;
            };
            Boundary.refused("place 0 of none", empty, x -> x.mark(sheet, 0, 9), INDEX);
            Boundary.refused("place -1 of none", empty, x -> x.mark(sheet, -1, 9), INDEX);
            Boundary.refused("the other one is missing", empty, x -> x.mark(1 - sheet, 0, 9), NOTHING);
            Boundary.refused("NOTHING stands ahead of INDEX", empty, x -> x.mark(1 - sheet, -1, 9), NOTHING);
            Boundary.refused("NOTHING stands ahead of INDEX, above", empty, x -> x.mark(1 - sheet, 24, 9), NOTHING);
        }
        Boundary.outside("sheet", 0, 1, Boundary::busy, (x, v) -> x.mark(v, 0, 9), BAD);
        Boundary.outside("sheet, BAD ahead of INDEX", 0, 1, Boundary::busy, (x, v) -> x.mark(v, -1, 9), BAD);
        Boundary.outside("sheet, BAD ahead of NOTHING", 0, 1, () -> Boundary.people(0), (x, v) -> x.mark(v, 0, 9), BAD);
        sentence(40, "A place of a SHEET becomes v: what it was.");
        DayFines x = new DayFines();
        x.sheet(0, 2);
        int was = 0;
        for (int v : new int[] {1, -1, LOW, HIGH, INDEX, 0}) {
            due("it was " + was, x.mark(0, 1, v), was);
            was = v;
        }
        due("the one beside stays", x.mark(0, 0, 3), 0);
    }

    // ---- promise 41

    /** Sheet 0 with six places, 1 to 6; sheet 1 with three, 11 to 13. */
    private static DayFines sheets() {
        DayFines x = Boundary.people(0);
        x.sheet(0, 6);
        x.sheet(1, 3);
        for (int i = 0; i < 6; i++) x.mark(0, i, 1 + i);
        for (int i = 0; i < 3; i++) x.mark(1, i, 11 + i);
        return x;
    }

    private static void copied(String what, int[] call, int[] zero, int[] one) {
        DayFines x = sheets();
        due(what, x.copy(call[0], call[1], call[2], call[3], call[4]), call[4]);
        for (int i = 0; i < 6; i++) due(what + ", sheet 0, place " + i, x.mark(0, i, 0), zero[i]);
        for (int i = 0; i < 3; i++) due(what + ", sheet 1, place " + i, x.mark(1, i, 0), one[i]);
    }

    private static void p41_asTheyWere() {
        sentence(41, "So many places of a SHEET come to another one (or the same), as they were: many.");
        int[] zero = {1, 2, 3, 4, 5, 6};
        int[] one = {11, 12, 13};
        copied("none", new int[] {0, 0, 1, 0, 0}, zero, one);
        copied("one", new int[] {0, 5, 1, 2, 1}, zero, new int[] {11, 12, 6});
        copied("two", new int[] {0, 4, 1, 1, 2}, zero, new int[] {11, 5, 6});
        copied("all of the lesser", new int[] {0, 3, 1, 0, 3}, zero, new int[] {4, 5, 6});
        copied("all of the lesser, the other way", new int[] {1, 0, 0, 3, 3}, new int[] {1, 2, 3, 11, 12, 13}, one);
        copied("onto itself", new int[] {0, 0, 0, 0, 6}, zero, one);
        copied("forth by one", new int[] {0, 0, 0, 1, 5}, new int[] {1, 1, 2, 3, 4, 5}, one);
        copied("back by one", new int[] {0, 1, 0, 0, 5}, new int[] {2, 3, 4, 5, 6, 6}, one);
        copied("forth by two", new int[] {0, 0, 0, 2, 4}, new int[] {1, 2, 1, 2, 3, 4}, one);
        copied("back by two", new int[] {0, 2, 0, 0, 4}, new int[] {3, 4, 5, 6, 5, 6}, one);
        copied("apart", new int[] {0, 0, 0, 3, 3}, new int[] {1, 2, 3, 1, 2, 3}, one);
        copied("in sheet 1", new int[] {1, 0, 1, 1, 2}, zero, new int[] {11, 11, 12});
    }

    private static void index(int from, int place, int to, int at, int many) {
        String call = "copy(" + from + ", " + place + ", " + to + ", " + at + ", " + many + ")";
        Boundary.refused(call, BoundarySheetsTest::sheets, x -> x.copy(from, place, to, at, many), INDEX);
    }

    private static void fits(int from, int place, int to, int at, int many) {
        String call = "copy(" + from + ", " + place + ", " + to + ", " + at + ", " + many + ")";
        due(call, sheets().copy(from, place, to, at, many), many);
    }

    private static void p41_index() {
        sentence(41, "INDEX: there is no such place");
        fits(0, 3, 1, 0, 3);
        index(0, 4, 1, 0, 3);
        fits(0, 4, 1, 0, 2);
        fits(0, 5, 1, 0, 1);
        index(0, 5, 1, 0, 2);
        index(0, 6, 1, 0, 1);
        fits(0, 6, 1, 0, 0);
        index(0, 7, 1, 0, 0);
        fits(0, 0, 1, 2, 1);
        index(0, 0, 1, 2, 2);
        index(0, 0, 1, 3, 1);
        fits(0, 0, 1, 3, 0);
        index(0, 0, 1, 4, 0);
        index(0, 0, 1, 0, 4);
        index(1, 0, 0, 0, 4);
        fits(0, 0, 0, 0, 6);
        index(0, 0, 0, 0, 7);
        index(0, -1, 1, 0, 1);
        index(0, -1, 1, 0, 0);
        index(0, 0, 1, -1, 1);
        index(0, 0, 1, -1, 0);
        index(0, 1, 1, 1, -1);
        index(0, 1, 0, 1, LOW);
        index(0, 1, 1, 1, HIGH);
        index(0, HIGH, 1, 0, 1);
        index(0, 0, 1, HIGH, 1);
        index(0, HIGH, 1, 0, HIGH);
        index(0, LOW, 1, 0, 1);
        index(0, 0, 1, LOW, 1);
        index(0, LOW, 1, LOW, LOW);
        DayFines whole = new DayFines();
        whole.sheet(0, 24);
        whole.sheet(1, 24);
        due("24 places", whole.copy(0, 0, 1, 0, 24), 24);
        due("25 places", whole.copy(0, 0, 1, 0, 25), INDEX);
        DayFines empty = new DayFines();
        empty.sheet(0, 0);
        empty.sheet(1, 0);
        due("none of none", empty.copy(0, 0, 1, 0, 0), 0);
        due("one of none", empty.copy(0, 0, 1, 0, 1), INDEX);
    }

    private static void p41_order() {
        sentence(41, "BAD; NOTHING; INDEX. (From a SHEET, its place, to a SHEET, its place.)");
        Boundary.outside("from", 0, 1, BoundarySheetsTest::sheets, (x, v) -> x.copy(v, 0, 1, 0, 1), BAD);
        Boundary.outside("to", 0, 1, BoundarySheetsTest::sheets, (x, v) -> x.copy(0, 0, v, 0, 1), BAD);
        Boundary.outside("from, ahead of INDEX", 0, 1, BoundarySheetsTest::sheets, (x, v) -> x.copy(v, -1, 1, 9, -1), BAD);
        Boundary.outside("to, ahead of INDEX", 0, 1, BoundarySheetsTest::sheets, (x, v) -> x.copy(0, -1, v, 9, -1), BAD);
        Supplier<DayFines> half = () -> {
            DayFines x = Boundary.people(0);
            x.sheet(0, 2);
            return x;
        };
        Boundary.refused("to a missing one", half, x -> x.copy(0, 0, 1, 0, 1), NOTHING);
        Boundary.refused("to a missing one, none", half, x -> x.copy(0, 0, 1, 0, 0), NOTHING);
        Boundary.refused("from a missing one", half, x -> x.copy(1, 0, 0, 0, 1), NOTHING);
        Boundary.refused("from a missing one to itself", half, x -> x.copy(1, 0, 1, 0, 1), NOTHING);
        Boundary.refused("NOTHING ahead of INDEX", half, x -> x.copy(0, 9, 1, 0, 1), NOTHING);
        Boundary.refused("NOTHING ahead of INDEX, from", half, x -> x.copy(1, 0, 0, 9, -1), NOTHING);
        Boundary.refused("BAD ahead of NOTHING, to", half, x -> x.copy(1, 0, 2, 0, 1), BAD);
        Boundary.refused("BAD ahead of NOTHING, from", half, x -> x.copy(2, 0, 1, 0, 1), BAD);
        due("there in itself", half.get().copy(0, 0, 0, 1, 1), 1);
    }

    // ---- promise 42

    private static void p42_what() {
        sentence(42, "How many: 0 PEOPLE, 1 FACTS, 2 DEEDS, 3 JUDGMENTS, 4 COUPLES, 5 DEEDS that are in no JUDGMENT, "
            + "6 numbers that wait, 7 bytes of THE TAPE, 8 TODAY, 9 CUSTODY of all. BAD.");
        int rows = 0;
        for (int m = 0; m < 24; m++) if (Boundary.busy().month(0, m) > 0) rows = m + 1;
        int[] want = {5, 6, 6, 3, 1, 2, rows, 25, 29, 50};
        Boundary.range("what", 0, 9, Boundary::busy, DayFines::count, v -> want[v]);
        for (int what = 0; what <= 9; what++) {
            int asked = what;
            due("what " + what, Boundary.busy().count(what), want[what]);
            Boundary.unchanged("an answer", Boundary::busy, x -> x.count(asked));
        }
        DayFines x = Boundary.people(0, 0, 0);
        for (int p = 0; p < 3; p++) for (int i = 0; i < 10; i++) x.custody(p, 999);
        due("custody of all", x.count(9), 29970);
        for (int d = 0; d < 3; d++) {
            due("deeds in none", x.count(5), d);
            x.deed(0, d, 0, 1);
        }
        Boundary.law(x, "days 1 sum 1 hours 1");
        for (int d = 0; d < 3; d++) {
            due("deeds in none", x.count(5), 3 - d);
            x.judge(d);
        }
        due("deeds in none", x.count(5), 0);
    }

    public static void main(String[] args) {
        p37_today();
        p37_newer();
        p38_none();
        p38_all();
        p38_everyRow();
        p38_butSheets();
        p38_fullAndBack();
        p38_full();
        p39_places();
        p39_zeros();
        p40_places();
        p41_asTheyWere();
        p41_index();
        p41_order();
        p42_what();
        Boundary.end(37, 42);
    }
}

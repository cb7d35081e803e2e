import java.io.IOException;
import java.nio.file.Files;
import java.nio.file.Path;
import java.util.ArrayList;
import java.util.List;
import java.util.Set;
import java.util.TreeSet;
import java.util.function.Consumer;
import java.util.function.IntUnaryOperator;
import java.util.function.Supplier;

/**
 * What the boundary tests share: the sentence of the document that is tested, ranges looked at on each side of their
 * ends, and refused calls, after which an object must answer all that a twin answers that was never asked.
 */
final class Boundary {
    static final int BAD = DayFines.BAD, NO = DayFines.NO, FULL = DayFines.FULL, NONE = DayFines.NONE;
    static final int NOTHING = DayFines.NOTHING, INDEX = DayFines.INDEX, SIZE = DayFines.SIZE;
    static final int LOW = Integer.MIN_VALUE, HIGH = Integer.MAX_VALUE;

    private static final Path DOCUMENT = Path.of("../shared/DOC.md");
    private static final String[] REFUSALS = {"BAD", "NO", "FULL", "NOTHING", "INDEX", "SIZE"};
    private static final int[] REFUSAL_ANSWERS = {BAD, NO, FULL, NOTHING, INDEX, SIZE};

    private static int wrong = 0;
    private static int asked = 0;
    private static int promise = 0;
    private static String words = "";
    private static final Set<String> told = new TreeSet<>();
    private static final Set<String> refusalsSeen = new TreeSet<>();
    private static String document = "";

    interface Call {
        int on(DayFines x);
    }

    interface CallWith {
        int on(DayFines x, int v);
    }

    private Boundary() {
    }

    // ---- what is tested

    /** What comes is a test of these words, which stand in the document with the promise or in its terms. */
    static void sentence(int ofPromise, String ofWords) {
        promise = ofPromise;
        words = ofWords;
        told.add(promise + ": " + words);
        if (document().isEmpty()) return;
        boolean stands = section("## Promise " + promise + ":").contains(words) || section("## Terms").contains(words);
        if (!stands) fail("these words are not in the document");
    }

    private static String document() {
        if (!document.isEmpty()) return document;
        try {
            document = Files.exists(DOCUMENT) ? Files.readString(DOCUMENT) : "";
        } catch (IOException e) {
            fail("the document can't be read: " + e);
        }
        return document;
    }

    private static String section(String heading) {
        int begin = document().indexOf(heading);
        if (begin < 0) return "";
        int end = document().indexOf("\n## ", begin + 1);
        String whole = document().substring(begin, end < 0 ? document().length() : end);
        return whole.replaceAll("[`\\s]+", " ");
    }

    private static void fail(String what) {
        wrong++;
        System.out.println("promise " + promise + ", '" + words + "': " + what);
    }

    static void due(String what, int got, int want) {
        asked++;
        for (int i = 0; i < REFUSALS.length; i++) {
            if (want == REFUSAL_ANSWERS[i]) refusalsSeen.add(promise + " " + REFUSALS[i]);
        }
        if (got != want) fail(what + " answered " + got + ", due is " + want);
    }

    /** Ends a test's main: each promise of its own has sentences, and each refusal that it lists was met. */
    static void end(int firstPromise, int lastPromise) {
        for (int p = firstPromise; p <= lastPromise; p++) {
            promise = p;
            words = "";
            String heading = p + ": ";
            if (told.stream().noneMatch(one -> one.startsWith(heading))) fail("no sentence is tested");
            String text = section("## Promise " + p + ":");
            for (String refusal : REFUSALS) {
                boolean isListed = text.matches(".*[.;] " + refusal + "[.:;,].*");
                if (isListed && !refusalsSeen.contains(p + " " + refusal)) fail(refusal + " was never met");
            }
        }
        finish();
    }

    static void finish() {
        System.out.println(told.size() + " sentences, " + asked + " answers, " + wrong + " not as due");
        if (wrong != 0) System.exit(1);
    }

    // ---- ranges and refusals

    /** At each end of a range what is due one inside it; one outside it, and far outside it, a refusal. */
    static void range(String what, int least, int most, Supplier<DayFines> story, CallWith call, IntUnaryOperator want) {
        inside(what, least, most, story, call, want);
        outside(what, least, most, story, call, BAD);
    }

    static void inside(String what, int least, int most, Supplier<DayFines> story, CallWith call, IntUnaryOperator want) {
        Set<Integer> values = new TreeSet<>(List.of(least, Math.min(least + 1, most), Math.max(most - 1, least), most));
        for (int v : values) due(what + " " + v, call.on(story.get(), v), want.applyAsInt(v));
    }

    static void outside(String what, int least, int most, Supplier<DayFines> story, CallWith call, int refusal) {
        Set<Integer> values = new TreeSet<>(List.of(LOW, LOW + 1, least - 1, most + 1, HIGH - 1, HIGH));
        for (int v : values) refused(what + " " + v, story, x -> call.on(x, v), refusal);
    }

    /** The call answers the refusal, and nothing that can be asked is otherwise than without it. */
    static void refused(String what, Supplier<DayFines> story, Call call, int refusal) {
        due(what, call.on(story.get()), refusal);
        unchanged(what, story, call);
    }

    /** The call leaves all that can be asked as it was. */
    static void unchanged(String what, Supplier<DayFines> story, Call call) {
        for (int i = 0; i < Probes.ALL.size(); i++) {
            DayFines touched = story.get();
            DayFines spared = story.get();
            call.on(touched);
            List<Integer> got = Probes.answers(i, touched);
            List<Integer> want = Probes.answers(i, spared);
            asked += want.size();
            if (!got.equals(want)) fail(what + " changed something (probe " + i + "): " + got + ", due is " + want);
        }
    }

    /** What can be asked of an object; each probe is put to an object of its own, which it may change. */
    private static final class Probes {
        static final List<Consumer<Probes>> ALL = List.of(Probes::all, Probes::rows, Probes::facts, Probes::deeds,
            Probes::judgments, Probes::acts, Probes::late, Probes::plans, Probes::waiting, Probes::tape, Probes::image,
            Probes::imageOfJudgments);

        final DayFines x;
        final List<Integer> answers = new ArrayList<>();
        final int people;
        final int judgments;
        final int today;

        private Probes(DayFines x) {
            this.x = x;
            people = x.count(0);
            judgments = x.count(3);
            today = x.count(8);
        }

        static List<Integer> answers(int which, DayFines x) {
            Probes probes = new Probes(x);
            ALL.get(which).accept(probes);
            return probes.answers;
        }

        void note(int answer) {
            answers.add(answer);
        }

        void all() {
            for (int what = 0; what < 10; what++) note(x.count(what));
            for (int p = 0; p < people; p++) for (int kind = 1; kind < 4; kind++) note(x.is(p, kind));
            note(x.unlike());
            note(x.spread(0));
            note(x.spread(1));
            for (int p = 0; p < people; p++) note(x.part(p));
            for (int p = 0; p < people; p++) note(x.custody(p, 1));
            for (int i = 0; i < 16; i++) note(x.rule(i, 0));
            for (int k = 0; k < 4; k++) note(x.flat(k, 0));
            note(x.days(1));
            note(x.person(0));
        }

        void rows() {
            note(x.slip(0, 0));
            note(x.slip(0, 1));
            for (int i = 0; i <= 24; i++) note(x.mark(0, i, 0));
            for (int i = 0; i <= 24; i++) note(x.mark(1, i, 0));
        }

        void facts() {
            for (int p = 0; p < people; p++) {
                for (int what = 0; what < 5; what++) {
                    note(x.known(p, what, today, today));
                    note(x.known(p, what, 3000, 0));
                    note(x.known(p, what, 3000, today));
                }
                note(x.sum(p, 0, today));
            }
        }

        void deeds() {
            for (int d = 0; d < x.count(2); d++) {
                for (int what = 0; what < 6; what++) note(x.told(d, what));
                note(x.worth(d));
            }
        }

        void judgments() {
            for (int j = 0; j < judgments; j++) for (int what = 0; what < 14; what++) note(x.about(j, what));
            for (int j = 1; j < judgments; j++) note(x.alike(0, j));
        }

        void acts() {
            for (int j = 0; j < judgments; j++) {
                note(x.back(j));
                note(x.pay(j, 1));
                note(x.step(j));
                note(x.work(j, 1));
                note(x.appeal(j, 0, 1));
                note(x.appeal(j, 1, 1));
                note(x.reopen(j));
                note(x.about(j, 9));
            }
            for (int p = 0; p < people; p++) note(x.judge(p));
            note(x.about(judgments, 2));
        }

        /** The day of the last step shows only by what is too soon. */
        void late() {
            x.rule(11, 1);
            for (int round = 0; round < 3; round++) {
                for (int j = 0; j < judgments; j++) note(x.step(j));
                note(x.days(1));
            }
        }

        void plans() {
            for (int p = 0; p < people; p++) {
                note(x.level(p));
                note(x.month(p, 0));
                note(x.month(p, 3));
                note(x.room(p, 0));
                note(x.room(p, 23));
            }
        }

        void waiting() {
            note(x.check(0));
            note(x.count(6));
        }

        void tape() {
            note(x.law());
            note(x.count(7));
            for (int d = 0; d < x.count(2); d++) note(x.worth(d));
            for (int p = 0; p < people; p++) note(x.sum(p, today, today));
        }

        void image() {
            note(x.again());
            for (int what = 0; what < 10; what++) note(x.count(what));
            for (int p = 0; p < people; p++) note(x.known(p, 4, 3000, 0));
            for (int d = 0; d < x.count(2); d++) note(x.worth(d));
            for (int p = 0; p < people; p++) note(x.part(p));
            for (int i = 0; i < 16; i++) note(x.rule(i, 0));
        }

        void imageOfJudgments() {
            note(x.again());
            for (int j = 0; j < x.count(3); j++) for (int what = 0; what < 14; what++) note(x.about(j, what));
            for (int j = 0; j < x.count(3); j++) note(x.appeal(j, 0, 1));
        }
    }

    // ---- stories

    static void feed(DayFines x, String text) {
        StringBuilder all = new StringBuilder(text);
        while (all.length() % 12 != 0) all.append(' ');
        int had = x.count(7);
        for (int i = 0; i < all.length(); i += 12) x.feed(four(all, i), four(all, i + 4), four(all, i + 8));
        x.trim(had + text.length());
    }

    private static int four(CharSequence text, int at) {
        int v = 0;
        for (int i = 0; i < 4; i++) v = v << 8 | text.charAt(at + i) & 255;
        return v;
    }

    static int law(DayFines x, String text) {
        feed(x, text);
        return x.law();
    }

    static void go(DayFines x, int n) {
        for (int left = n; left > 0; left -= 100) x.days(Math.min(left, 100));
    }

    static DayFines people(int... kinds) {
        DayFines x = new DayFines();
        for (int kind : kinds) x.person(kind);
        return x;
    }

    static DayFines court(String law, int... kinds) {
        DayFines x = people(kinds);
        law(x, law);
        return x;
    }

    /** Rules so wide that no bound of theirs is met. */
    static void widen(DayFines x) {
        x.rule(2, 0);
        x.rule(3, 999);
        x.rule(5, 9999);
        x.rule(6, 0);
        x.rule(7, 9999);
    }

    /** One person, whose judgment 0 is of so many days (999 at most) of so many coins; hours are unpaid days. */
    static DayFines judged(int days, int sum) {
        DayFines x = court("days " + days + " sum " + sum + " hours u", 0);
        widen(x);
        x.deed(0, 0, 0, 1);
        x.judge(0);
        return x;
    }

    /** As above, with the judgment TURNED. */
    static DayFines turned(int days, int sum) {
        DayFines x = judged(days, sum);
        x.rule(11, 0);
        for (int i = 0; i < 3; i++) x.step(0);
        return x;
    }

    /**
     * A court with something of all: people of each kind, a couple, facts that were told and that tax told late,
     * judgments 0 unpaid, 1 with something over, 2 TURNED with hours, a deed in none, an image, another law on the
     * tape, rows that wait, both sheets.
     */
    static DayFines busy() {
        DayFines x = court("days g/2+p*3+1 sum i/30+1 hours u*4+1", 0, 1, 2, 3, 0);
        x.fact(0, 0, 0, 3000, 0);
        x.fact(2, 1, 0, 1, 0);
        x.fact(3, 2, 1, 99999, 0);
        x.fact(1, 3, 0, 50, 0);
        x.couple(1, 2);
        x.custody(3, 7);
        x.custody(4, 50);
        x.flat(1, 300);
        x.flat(3, 900);
        x.rule(11, 0);
        x.deed(1, 0, 0, 40);
        x.deed(0, 0, 0, 10);
        x.judge(0);
        x.deed(3, 3, 0, 60);
        x.judge(3);
        x.deed(1, 2, 0, 20);
        x.judge(2);
        x.keep();
        go(x, 29);
        x.fact(0, 0, 1, 6000, 0);
        x.fact(0, 0, 0, 100, 900);
        x.pay(1, 9999999);
        x.appeal(1, 0, 3);
        for (int i = 0; i < 3; i++) x.step(2);
        x.step(0);
        x.rule(11, 30);
        x.deed(2, 0, 20, 30);
        x.deed(0, 4, 29, 30);
        x.sheet(0, 24);
        x.mark(0, 0, 5);
        x.mark(0, 1, 5);
        x.sheet(1, 3);
        x.mark(1, 2, -9);
        tellRows(x, 0);
        feed(x, "days g sum w/99+n hours 7");
        return x;
    }

    /** A court that is full: of people, couples, facts, deeds, judgments, bytes, numbers that wait and places. */
    static DayFines full() {
        DayFines x = court("days g sum i/30+1 hours u*4+1");
        for (int i = 0; i < 12; i++) x.person(i % 4);
        for (int i = 0; i < 12; i += 2) x.couple(i, i + 1);
        for (int i = 0; i < 96; i++) x.fact(i % 12, i / 12 % 4, i / 48 * (i / 12 % 2 == 0 ? 1 : 0), 1 + i % 9, i % 7);
        for (int i = 0; i < 15; i++) {
            x.deed(i % 4, i % 12, 0, 1 + i);
            x.judge(i % 12);
        }
        for (int i = 15; i < 29; i++) x.deed(i % 4, 3, 0, 1 + i);
        x.judge(3);
        x.deed(3, 11, 0, 100);
        for (int s = 0; s < 2; s++) x.sheet(s, 24);
        x.mark(0, 23, 7);
        x.mark(1, 23, 8);
        feed(x, "days g sum w/99+n hours" + " ".repeat(96) + "7");
        for (int i = 0; i < 30; i++) x.tell(i);
        return x;
    }

    /** The rows of a person's level wait. */
    static void tellRows(DayFines x, int person) {
        int rows = 0;
        for (int m = 0; m < 24; m++) if (x.month(person, m) > 0) rows = m + 1;
        for (int m = 0; m < rows; m++) x.tell(x.month(person, m));
    }
}

import java.io.IOException;
import java.lang.reflect.Method;
import java.lang.reflect.Modifier;
import java.nio.file.Files;
import java.nio.file.Path;
import java.util.ArrayList;
import java.util.Arrays;
import java.util.List;
import java.util.Set;
import java.util.TreeSet;
import java.util.function.Supplier;
import java.util.regex.Matcher;
import java.util.regex.Pattern;
import java.util.stream.Stream;

/**
 * The document from its first line to its last: its face, its order, its table of rules, and those of its sentences
 * that name no boundary; at the end each word of its terms and promises must stand in a sentence that some test tells.
 */
public final class DocumentTest {
    private static final int BAD = Boundary.BAD, NO = Boundary.NO, FULL = Boundary.FULL, NONE = Boundary.NONE;
    private static final int NOTHING = Boundary.NOTHING, INDEX = Boundary.INDEX, SIZE = Boundary.SIZE;
    private static final Path DOCUMENT = Path.of("../shared/DOC.md");
    private static final Path SOURCE = Path.of("src/main/java/DayFines.java"), TESTS = Path.of("src/test/java");

    private static void sentence(int promise, String words) {
        Boundary.sentence(promise, words);
    }

    private static void due(String what, int got, int want) {
        Boundary.due(what, got, want);
    }

    private static void must(String what, boolean holds) {
        due(what, holds ? 1 : 0, 1);
    }

    // ---- the public face

    private static void face(String document, String source) throws ReflectiveOperationException {
        String face = document.substring(document.indexOf("public final class"), document.indexOf("## Terms"));
        Matcher constant = Pattern.compile("([A-Z]+) = (-\\d+)").matcher(face);
        int constants = 0;
        while (constant.find()) {
            constants++;
            int value = DayFines.class.getField(constant.group(1)).getInt(null);
            due(constant.group(1), value, Integer.parseInt(constant.group(2)));
        }
        due("so many constants", DayFines.class.getFields().length, constants);
        Matcher method = Pattern.compile("public int \\w+\\([^)]*\\)").matcher(face);
        int methods = 0;
        while (method.find()) {
            methods++;
            must(method.group() + " stands in the class", source.contains("    " + method.group() + " {"));
        }
        int open = 0;
        for (Method m : DayFines.class.getDeclaredMethods()) if (Modifier.isPublic(m.getModifiers())) open++;
        due("so many methods", open, methods);
    }

    /** "Ahead of the calls .. the interface says: ---- ..": these lines stand there in the class, too. */
    private static void order(String document, String source) {
        int at = 0;
        Matcher group = Pattern.compile("Ahead of the calls (.*) the interface says: (---- .*)\\.").matcher(document);
        while (group.find()) {
            at = source.indexOf("    // " + group.group(2) + "\n", at);
            must(group.group(2), at >= 0);
            for (String name : group.group(1).replaceAll("[`\\s]", "").split(",")) {
                at = source.indexOf("    public int " + name + "(", Math.max(0, at));
                must(name + " behind what stands ahead of it", at >= 0);
            }
        }
    }

    // ---- terms: answers

    private static void p7_cuts() {
        sentence(7, "All numbers are whole; / cuts (nothing below 0 is divided, but where told).");
        DayFines x = Boundary.court("days g sum i/30 hours 1", 0, 3);
        x.fact(0, 0, 0, 59, 0);
        x.fact(1, 0, 0, 0, 0);
        x.fact(1, 2, 0, 24 * 3 - 1, 0);
        due("WEALTH / 24", x.known(1, 4, 0, 0), 2);
        due("E", x.sum(0, 0, 0), 1);
        x.couple(0, 1);
        due("half of both", x.known(0, 4, 0, 0), 30);
        x.part(0);
        x.rule(13, 100);
        due("what is below 0 is 0 ahead of SHARE", x.room(0, 0), 0);
        x.deed(0, 0, 0, 1);
        x.judge(0);
        due("SHARE of a judgment", x.about(0, 11), 16);
    }

    private static DayFines lawless() {
        DayFines x = Boundary.people(0);
        x.deed(0, 0, 0, 1);
        return x;
    }

    private static void p4_standsFirst() {
        sentence(4, "A call that is refused answers one of BAD, NO, FULL, or a FINDING, of several the one that stands "
            + "first with it");
        Supplier<DayFines> full = Boundary::full;
        Supplier<DayFines> turned = () -> Boundary.turned(3, 5);
        Boundary.refused("person: BAD; FULL", full, x -> x.person(4), BAD);
        Boundary.refused("couple: BAD; NO", full, x -> x.couple(0, 0), BAD);
        Boundary.refused("part: BAD; NO", turned, x -> x.part(1), BAD);
        Boundary.refused("fact: BAD; FULL", full, x -> x.fact(0, 3, 1, 1, 0), BAD);
        Boundary.refused("deed: BAD; FULL", () -> deeds(30), x -> x.deed(0, 0, 0, 0), BAD);
        Boundary.refused("worth: BAD; NO", Boundary::people, x -> x.worth(0), BAD);
        Boundary.refused("sum: BAD; NO", DocumentTest::lawless, x -> x.sum(0, 3001, 0), BAD);
        Boundary.refused("judge: BAD; NO; FULL", full, x -> x.judge(12), BAD);
        Boundary.refused("judge: NO; FULL", full, x -> x.judge(0), NO);
        Boundary.refused("judge: FULL", full, x -> x.judge(11), FULL);
        Boundary.refused("appeal: BAD; NO", turned, x -> x.appeal(0, 0, 1000), BAD);
        Boundary.refused("pay: BAD; NO", turned, x -> x.pay(0, 0), BAD);
        Boundary.refused("work: BAD; NO", () -> Boundary.judged(3, 5), x -> x.work(0, 0), BAD);
        Supplier<DayFines> hopeless = DocumentTest::withoutLevel;
        Boundary.refused("month: BAD; NO", hopeless, x -> x.month(0, 24), BAD);
        Boundary.refused("month: NO", hopeless, x -> x.month(0, 23), NO);
        Boundary.refused("level: NO", hopeless, x -> x.level(0), NO);
        Boundary.refused("slip: BAD; NOTHING", hopeless, x -> x.slip(1, 0), BAD);
        Boundary.refused("sheet: BAD; SIZE", hopeless, x -> x.sheet(2, -1), BAD);
        Boundary.refused("mark: BAD; NOTHING; INDEX", hopeless, x -> x.mark(2, 24, 0), BAD);
        Boundary.refused("mark: NOTHING; INDEX", hopeless, x -> x.mark(1, 24, 0), NOTHING);
        Boundary.refused("copy: BAD; NOTHING; INDEX", hopeless, x -> x.copy(0, 24, 2, 24, 24), BAD);
        Boundary.refused("copy: NOTHING; INDEX", hopeless, x -> x.copy(0, 24, 1, 24, 24), NOTHING);
    }

    private static DayFines deeds(int many) {
        DayFines x = Boundary.people(0);
        for (int i = 0; i < many; i++) x.deed(0, 0, 0, 1);
        return x;
    }

    private static DayFines withoutLevel() {
        DayFines x = Boundary.judged(3, 5);
        x.rule(14, 0);
        return x;
    }

    private static void p32_butWhereTold() {
        sentence(32, "and changes nothing (but the tape and the numbers that wait, where told)");
        Supplier<DayFines> full = Boundary::full;
        Boundary.refused("feed leaves the tape", full, x -> x.feed(0, 0, 0), FULL);
        Boundary.refused("trim leaves the tape", full, x -> x.trim(121), BAD);
        Boundary.refused("tell leaves what waits", full, x -> x.tell(9), FULL);
        DayFines x = Boundary.full();
        x.trim(119);
        due("law is refused", x.law(), -219);
        due("and the tape is used up", x.count(7), 0);
        due("but not what waits", x.count(6), 30);
        due("check is refused", x.check(12), BAD);
        due("and nothing waits", x.count(6), 0);
        DayFines hopeless = withoutLevel();
        hopeless.tell(1);
        due("check answers NO", hopeless.check(0), NO);
        due("and nothing waits then either", hopeless.count(6), 0);
    }

    private static void p13_none() {
        sentence(13, "NONE: there is none.");
        DayFines x = lawless();
        due("no judgment of a deed", x.told(0, 5), NONE);
        due("no two that are unlike", x.unlike(), NONE);
        x.sheet(0, 0);
        due("no fault of a slip", x.slip(0, 0), NONE);
        due("no number is refused so", x.part(0), NO);
    }

    // ---- terms 1 and 2: people, facts, deeds

    private static void p9_days() {
        sentence(9, "DAYS 0 .. 3000; TODAY is 0 at first.");
        DayFines x = Boundary.people(0);
        due("at first", x.count(8), 0);
        Boundary.go(x, 3000);
        due("the last day", x.count(8), 3000);
        due("a fact of it", x.fact(0, 0, 0, 7, 3000), 1);
        due("known on it", x.known(0, 0, 3000, 3000), 7);
        due("not known ahead of it", x.known(0, 0, 3000, 2999), 1000);
    }

    private static void p4_couples() {
        sentence(4, "Two PEOPLE may be a COUPLE (each in one at most): then what one EARNS");
        DayFines x = Boundary.people(0, 0, 0);
        x.fact(0, 0, 0, 100, 0);
        x.fact(1, 0, 0, 200, 0);
        x.fact(2, 0, 0, 600, 0);
        x.couple(0, 1);
        due("one of a couple and another", x.couple(1, 2), NO);
        due("another and one of a couple", x.couple(2, 0), NO);
        int[] want = {150, 150, 600};
        for (int p = 0; p < 3; p++) due("earns " + p, x.known(p, 4, 0, 0), want[p]);
        x.part(0);
        due("in another one then", x.couple(2, 0), 1);
        int[] then = {350, 200, 350};
        for (int p = 0; p < 3; p++) due("earns then " + p, x.known(p, 4, 0, 0), then[p]);
    }

    private static void p6_comes() {
        sentence(6, "FACTS, 96 at most: of a PERSON: WHAT 0 INCOME (a month)");
        sentence(6, "A FACT comes TODAY: how many there are.");
        DayFines x = Boundary.people(0, 0);
        due("of one", x.fact(0, 0, 0, 5, 0), 1);
        Boundary.go(x, 2);
        due("of the other one", x.fact(1, 0, 0, 6, 0), 2);
        due("of the first again", x.fact(0, 0, 0, 7, 0), 3);
        due("how many", x.count(1), 3);
        int[] first = {5, 5, 7};
        int[] second = {1000, 1000, 6};
        for (int k = 0; k < 3; k++) {
            due("of the first as known on " + k, x.known(0, 0, 0, k), first[k]);
            due("of the second as known on " + k, x.known(1, 0, 0, k), second[k]);
        }
    }

    private static void p7_asKnown() {
        sentence(7, "WHAT of a PERSON on day d AS KNOWN on day k: of FACTS of it KNOWN since k at most");
        DayFines x = Boundary.people(0);
        int[] whats = {0, 1, 2, 3};
        for (int what : whats) x.fact(0, what, 0, 1 + what, 3);
        Boundary.go(x, 1);
        for (int what : whats) x.fact(0, what, 0, 5 + what, 2);
        for (int what : whats) {
            int none = what == 0 ? 1000 : 0;
            due(what + " on 1", x.known(0, what, 1, 1), none);
            due(what + " on 2 as known on 0", x.known(0, what, 2, 0), none);
            due(what + " on 2 as known on 1", x.known(0, what, 2, 1), 5 + what);
            due(what + " on 3 as known on 0", x.known(0, what, 3, 0), 1 + what);
            due(what + " on 3 as known on 1", x.known(0, what, 3, 1), 1 + what);
        }
    }

    private static void p8_order() {
        sentence(8, "all of it. BAD; FULL: it would be above 9999.");
        Supplier<DayFines> nearlyFull = () -> {
            DayFines x = Boundary.people(0);
            for (int i = 0; i < 10; i++) x.custody(0, 999);
            return x;
        };
        due("all of it", nearlyFull.get().custody(0, 9), 9999);
        Boundary.refused("above 9999", nearlyFull, x -> x.custody(0, 10), FULL);
        Boundary.refused("above 9999, too many at once", nearlyFull, x -> x.custody(0, 1000), BAD);
        Boundary.refused("above 9999, of nobody", nearlyFull, x -> x.custody(1, 10), BAD);
    }

    private static void p13_past() {
        sentence(13, "of a PERSON, on a day (0 .. TODAY)");
        sentence(13, "PAST of a DEED: how many JUDGMENTS of its PERSON were made on days ahead of its day");
        DayFines x = Boundary.court("days 1 sum 1 hours 1", 0, 0);
        for (int day = 0; day < 3; day++) {
            x.deed(0, day % 2, day, 1);
            x.judge(day % 2);
            Boundary.go(x, 1);
        }
        for (int p = 0; p < 2; p++) for (int day = 0; day < 4; day++) x.deed(0, p, day, 1);
        int[] want = {0, 1, 1, 2, 0, 0, 1, 1};
        for (int i = 0; i < 8; i++) due("past of deed " + (3 + i), x.told(3 + i, 4), want[i]);
    }

    private static void p14_old() {
        sentence(14, "FLAT of a KIND: 0 .. 9999 (0 at first): what it cost of old.");
        DayFines x = Boundary.court("days 1 sum 1 hours 1", 0);
        x.fact(0, 0, 0, 1000, 0);
        for (int kind = 0; kind < 4; kind++) {
            x.deed(kind, 0, 0, 1);
            x.judge(0);
            due("at first", x.about(kind, 12), 0);
            x.flat(kind, 10 + kind);
            due("of its own kind alone", x.about(kind, 12), 10 + kind);
        }
    }

    // ---- term 3: the law

    private static void p17_text() {
        sentence(17, "THE LAW is a TEXT on THE TAPE (120 bytes at most; an act that reads it uses it up, whatever it "
            + "answers): days E sum E hours E.");
        DayFines x = Boundary.people(0);
        String head = "days 2 sum 3 hours 1";
        String whole = head + "+1".repeat((120 - head.length()) / 2);
        due("so long a text", whole.length(), 120);
        due("its parts", Boundary.law(x, whole), 3 + 50);
        due("it is used up", x.law(), -100);
        due("it is the law", x.sum(0, 0, 0), 3);
    }

    /** Letters stand for words here: a for days, b for sum, c for hours, one byte a word or sign. */
    private static final String ALPHABET = "1!()+*<&|bc";

    /** All E of so many words and signs, of one number and one sign of each tightness. */
    private static List<Set<String>> allOfE(int longest) {
        String[] joins = {"*", "+", "<", "&", "|"};
        List<List<Set<String>>> tighter = new ArrayList<>();
        for (int i = 0; i <= joins.length; i++) tighter.add(new ArrayList<>(List.of(new TreeSet<>())));
        for (int n = 1; n <= longest; n++) {
            Set<String> parts = new TreeSet<>();
            if (n == 1) parts.add("1");
            for (String inner : tighter.get(0).get(n - 1)) parts.add("!" + inner);
            if (n > 2) for (String inner : tighter.get(joins.length).get(n - 2)) parts.add("(" + inner + ")");
            tighter.get(0).add(parts);
            for (int i = 0; i < joins.length; i++) {
                Set<String> rows = new TreeSet<>(tighter.get(i).get(n));
                List<Set<String>> left = tighter.get(joins[i].equals("<") ? i : i + 1);
                for (int k = 1; k < n - 1; k++) {
                    for (String one : left.get(k)) {
                        for (String two : tighter.get(i).get(n - 1 - k)) rows.add(one + joins[i] + two);
                    }
                }
                tighter.get(i + 1).add(rows);
            }
        }
        return tighter.get(joins.length);
    }

    /** What some E goes on from, and all E. */
    private static void beginnings(List<Set<String>> all, Set<String> some, Set<String> whole) {
        for (Set<String> rows : all) {
            for (String row : rows) {
                whole.add(row);
                for (int n = 0; n <= row.length(); n++) some.add(row.substring(0, n));
            }
        }
    }

    private static String written(String letters) {
        return letters.replace("1", "1 ").replace("b", " sum ").replace("c", " hours ").replace("a", "days ");
    }

    /** The place of the first word or sign with which no TEXT goes on, or the end. */
    private static int faultOf(String letters, Set<String> some, Set<String> whole) {
        String e = "";
        char heading = 'a';
        for (int i = 1; i < letters.length(); i++) {
            char next = letters.charAt(i);
            boolean isHeading = next == heading + 1 && whole.contains(e);
            if (!isHeading && !some.contains(e + next)) {
                int blanks = next == 'b' || next == 'c' ? 1 : 0;
                return written(letters.substring(0, i)).length() + blanks;
            }
            e = isHeading ? "" : e + next;
            if (isHeading) heading = next;
        }
        return heading == 'c' && whole.contains(e) ? -1 : written(letters).length();
    }

    private static void p17_goesOn() {
        sentence(17, "FAULT: the first byte of the first word or sign with which no TEXT goes on "
            + "(a word that needs a blank ahead of it");
        Set<String> some = new TreeSet<>();
        Set<String> whole = new TreeSet<>();
        int longest = 4;
        // an open ( needs a part and a ) more, so that whole ones must be longer than what is asked
        beginnings(allOfE(longest + 3), some, whole);
        List<String> rows = new ArrayList<>(List.of(""));
        for (int from = 0, n = 0; n < longest; n++) {
            int to = rows.size();
            for (; from < to; from++) for (char c : ALPHABET.toCharArray()) rows.add(rows.get(from) + c);
        }
        for (String row : rows) {
            if (row.matches(".*\\(.*\\(.*\\(.*")) continue;
            String[] texts = {"a" + row, "a" + row + "b1c1", "a1b" + row + "c1", "a1b1c" + row};
            for (String text : texts) {
                int fault = faultOf(text, some, whole);
                int parts = text.replaceAll("[^1]", "").length();
                int got = Boundary.law(new DayFines(), written(text));
                due("law of '" + written(text) + "'", got, fault < 0 ? parts : -100 - fault);
            }
        }
    }

    private static void p17_inBrackets() {
        sentence(17, "(a word that needs a blank ahead of it, a NUMBER of more than 5 digits, the ninth (, the ninth ! "
            + "that would be open within one another, too); the end (the place behind the last byte)");
        due("a word", Boundary.law(new DayFines(), "days 1 sum 1 hours 1u"), -120);
        due("a number", Boundary.law(new DayFines(), "days 1 sum 1 hours 000001"), -119);
        due("eight (", Boundary.law(new DayFines(), "days 1 sum 1 hours ((((((((1))))))))"), 3);
        due("the ninth (", Boundary.law(new DayFines(), "days 1 sum 1 hours (((((((((1)))))))))"), -127);
        due("the ninth ( in all", Boundary.law(new DayFines(), "days 1 sum 1 hours ((((((((1))))))))+(1)"), 4);
        due("eight !", Boundary.law(new DayFines(), "days 1 sum 1 hours !!!!!!!!1"), 3);
        due("the ninth !", Boundary.law(new DayFines(), "days 1 sum 1 hours !!!!!!!!!1"), -127);
        due("the ninth ! in all", Boundary.law(new DayFines(), "days 1 sum 1 hours !!!!!!!!1+!1"), 4);
        due("the end", Boundary.law(new DayFines(), "days 1 sum 1 hours "), -119);
    }

    // ---- term 4: judgments

    private static void p20_made() {
        sentence(20, "A JUDGMENT (16 at most, numbered from 0) of a PERSON, made TODAY, is of all DEEDS");
        sentence(20, "Each has what E of days gives, LEAST at least, MOST at most. JOINED: the greatest of these");
        DayFines x = Boundary.court("days g+p*20 sum i hours 1", 0, 2);
        x.rule(2, 10);
        x.rule(3, 40);
        x.rule(4, 100);
        Boundary.go(x, 7);
        int[] weights = {1, 25, 90};
        for (int weight : weights) x.deed(0, 1, 3, weight);
        due("its number", x.judge(1), 0);
        due("its person", x.about(0, 0), 1);
        due("its day", x.about(0, 1), 7);
        due("its days", x.about(0, 2), 10 + 25 + 40);
        Boundary.go(x, 1);
        x.deed(0, 1, 8, 1);
        x.judge(1);
        due("with a past", x.about(1, 2), 21);
        due("the day of the second", x.about(1, 1), 8);
    }

    private static void p22_parts() {
        sentence(22, "DAYS (part 0), SUM (1) is APPEALED: what it was.");
        DayFines x = Boundary.judged(30, 50);
        due("the days were", x.appeal(0, 0, 20), 30);
        due("the days are", x.about(0, 2), 20);
        due("the sum is still", x.about(0, 3), 50);
        due("the sum was", x.appeal(0, 1, 7), 50);
        due("the fine is", x.about(0, 4), 140);
        due("the days once more", x.appeal(0, 0, 20), NO);
        due("the sum once more", x.appeal(0, 1, 7), NO);
    }

    private static void p26_steps() {
        sentence(26, "STEPS: 0 at first, 1 TOLD, 2 WARNED, 3 TURNED: each next one TODAY");
        DayFines x = Boundary.judged(3, 5);
        for (int step = 0; step < 3; step++) {
            due("its step", x.about(0, 8), step);
            due("no hours yet", x.about(0, 9), 0);
            due("what is paid", x.pay(0, 1), 0);
            Boundary.go(x, 29);
            due("a day too soon", x.step(0), NO);
            Boundary.go(x, 1);
            due("the next one", x.step(0), step + 1);
        }
        due("its last step", x.about(0, 8), 3);
        due("hours: unpaid days", x.about(0, 9), 3);
        due("no fourth", x.step(0), NO);
    }

    private static void p27_turned() {
        sentence(27, "nothing is paid, APPEALED or REOPENED any more then. WORKED may be HOURS.");
        Supplier<DayFines> turned = () -> Boundary.turned(3, 5);
        Boundary.refused("pay", turned, x -> x.pay(0, 1), NO);
        Boundary.refused("appeal days", turned, x -> x.appeal(0, 0, 0), NO);
        Boundary.refused("appeal sum", turned, x -> x.appeal(0, 1, 0), NO);
        Boundary.refused("reopen", turned, x -> x.reopen(0), NO);
        Boundary.refused("back", turned, x -> x.back(0), NO);
        DayFines x = turned.get();
        due("one hour", x.work(0, 1), 2);
        due("two hours", x.work(0, 2), 0);
        due("no more", x.work(0, 1), NO);
    }

    // ---- terms 5 and 6: instalments, cases alike, slips

    private static void p28_instalments() {
        sentence(28, "INSTALMENTS of a PERSON: for all JUDGMENTS of that one with UNPAID coins that are not TURNED");
        sentence(28, "It HOLDS, if each is paid in whole in a MONTH that is on its DUE day at the latest. THE LEVEL");
        DayFines x = Boundary.court("days g sum 10 hours u", 0, 0);
        for (int p = 0; p < 2; p++) {
            x.deed(0, p, 0, 60);
            x.judge(p);
        }
        x.rule(12, 60);
        due("600 in three months", x.level(0), 200);
        x.rule(12, 59);
        due("600 in two months", x.level(0), 300);
        x.rule(12, 29);
        due("600 in one, with room for 350", x.level(0), NO);
        x.pay(0, 250);
        due("350 in one", x.level(0), 350);
        due("the other one's are not those", x.level(1), NO);
    }

    private static void p30_room() {
        sentence(30, "MONTH m (0 .. 23) is on day TODAY and 30 m; its ROOM: what the PERSON EARNS on that day");
        DayFines x = Boundary.people(0);
        x.fact(0, 0, 0, 2300, 30);
        x.fact(0, 0, 0, 300, 61);
        int[] want = {350, 1000, 1000, 0};
        for (int m = 0; m < 4; m++) due("room " + m, x.room(0, m), want[m]);
        Boundary.go(x, 1);
        int[] then = {350, 1000, 0, 0};
        for (int m = 0; m < 4; m++) due("room a day later " + m, x.room(0, m), then[m]);
    }

    private static void p32_rows() {
        sentence(32, "(or is missing, or one too many). BAD; NO.");
        Supplier<DayFines> plain = () -> Boundary.judged(10, 10);
        int[][] rows = {{8, 8, 8, 8, 8, 8, 8, 8, 8, 8, 8, 8, 4}, {8, 8}, {}, {8, 7}, {4},
            {8, 8, 8, 8, 8, 8, 8, 8, 8, 8, 8, 8, 4, 0}};
        int[] want = {0, 3, 1, 2, 1, 14};
        for (int i = 0; i < rows.length; i++) {
            DayFines x = plain.get();
            for (int row : rows[i]) x.tell(row);
            due("rows " + Arrays.toString(rows[i]), x.check(0), want[i]);
        }
        due("nobody", plain.get().check(1), BAD);
        due("no level", withoutLevel().check(0), NO);
    }

    private static void p21_share() {
        sentence(21, "SHARE of a JUDGMENT: FINE (of FLAT ones: FLAT of all its DEEDS together) times 1000 / what");
        DayFines x = Boundary.court("days g sum i/100 hours 1", 0);
        x.flat(1, 30);
        x.flat(2, 5);
        x.fact(0, 0, 0, 1500, 0);
        x.deed(1, 0, 0, 20);
        x.deed(2, 0, 0, 10);
        x.deed(2, 0, 0, 1);
        x.judge(0);
        due("the fine", x.about(0, 4), 25 * 15);
        due("its share", x.about(0, 11), 250);
        due("the share of flat ones", x.about(0, 12), 26);
    }

    private static void p34_unlike() {
        sentence(34, "UNLIKE: the two that are ALIKE with DAYS farthest apart");
        DayFines x = Boundary.court("days g*g sum 1 hours 1", 0);
        x.rule(3, 999);
        x.rule(5, 9999);
        int[] weights = {1, 9, 3, 8, 4};
        for (int weight : weights) {
            x.deed(0, 0, 0, weight);
            x.judge(0);
        }
        due("9 and 4, as 9 and 3 are not alike", x.unlike(), 104);
    }

    private static void p36_slip() {
        sentence(36, "A SLIP on a SHEET: pay, and all pay so far, place by place in turn. Its FAULT: the first place");
        DayFines x = Boundary.people(0);
        int[] right = {5, 5, 0, 5, 7, 12, 1, 13};
        for (int wrong = -1; wrong < right.length; wrong++) {
            x.sheet(0, right.length);
            for (int i = 0; i < right.length; i++) x.mark(0, i, right[i] + (i == wrong ? 1 : 0));
            // more pay than told shows where all pay so far is told next
            int want = wrong < 0 ? NONE : wrong % 2 == 0 ? wrong + 1 : wrong;
            due("one more at " + wrong, x.slip(0, 0), want);
        }
    }

    // ---- term 7: rules, findings

    private static void p10_table(String document) {
        Matcher rule = Pattern.compile("(\\d+) [A-Z]+ \\(0 \\.\\. (\\d+); (\\d+)( at first)?\\)").matcher(document);
        int rules = 0;
        while (rule.find()) {
            sentence(10, rule.group());
            int which = Integer.parseInt(rule.group(1));
            int most = Integer.parseInt(rule.group(2));
            int first = Integer.parseInt(rule.group(3));
            due("in turn", which, rules);
            rules++;
            Boundary.range("rule " + which, 0, most, DayFines::new, (x, v) -> x.rule(which, v), v -> first);
            DayFines x = new DayFines();
            x.rule(which, most);
            due("what it was", x.rule(which, 0), most);
            due("what it was then", x.rule(which, 0), 0);
        }
        due("so many rules", rules, 16);
        Boundary.outside("which", 0, 15, Boundary::busy, (x, v) -> x.rule(v, 0), BAD);
    }

    private static void p40_findings() {
        sentence(40, "FINDINGS: NOTHING: a SHEET is MISSING; INDEX: there is no such place; SIZE: a number of places");
        DayFines x = Boundary.people(0);
        for (int s = 0; s < 2; s++) {
            due("mark", x.mark(s, 0, 0), NOTHING);
            due("slip", x.slip(0, s), NOTHING);
            due("copy", x.copy(s, 0, s, 0, 0), NOTHING);
            due("sheet below 0", x.sheet(s, -1), SIZE);
            due("still missing", x.mark(s, 0, 0), NOTHING);
            due("sheet of none", x.sheet(s, 0), 0);
            due("no such place", x.mark(s, 0, 0), INDEX);
            due("nothing to nothing", x.copy(s, 0, s, 0, 0), 0);
            due("no such place to copy", x.copy(s, 0, s, 0, 1), INDEX);
        }
    }

    // ---- every word

    /** What the tests tell of the document: the texts of their sources that stand in it to the letter. */
    private static List<String> toldByTests() throws IOException {
        List<String> told = new ArrayList<>();
        String one = "\"((?:[^\"\\\\\n]|\\\\.)*)\"";
        Pattern texts = Pattern.compile(one + "(\\s*\\+\\s*" + one + ")*");
        try (Stream<Path> files = Files.list(TESTS)) {
            for (Path file : files.filter(f -> f.toString().matches(".*(Boundary|Document)\\w*Test.java")).toList()) {
                Matcher text = texts.matcher(Files.readString(file));
                while (text.find()) {
                    StringBuilder words = new StringBuilder();
                    Matcher each = Pattern.compile(one).matcher(text.group());
                    while (each.find()) words.append(each.group(1));
                    told.add(words.toString());
                }
            }
        }
        return told;
    }

    private static void everyWord(String document) throws IOException {
        String terms = document.substring(document.indexOf("## Terms"), document.indexOf("## Not promised"));
        // headings and signatures are no sentences; order and p10_table look at the interface's lines and the rules
        String[] others = {"(?m)^## .*$", "(?m)^`.*?`: ", "(?m)^```.*$", "(?m)^Ahead of the calls .*$", "=+ \\d+ ",
            "RULES: .*; 0\\)\\. "};
        String text = terms;
        for (String other : others) text = text.replaceAll(other, "");
        text = text.replaceAll("\\s+", " ");
        boolean[] told = new boolean[text.length()];
        for (String words : toldByTests()) {
            if (words.length() < 8) continue;
            for (int at = text.indexOf(words); at >= 0; at = text.indexOf(words, at + 1)) {
                Arrays.fill(told, at, at + words.length(), true);
            }
        }
        int begin = 0;
        for (int i = 0; i <= text.length(); i++) {
            if (i < text.length() && !told[i]) continue;
            String left = text.substring(begin, i);
            if (left.matches(".*[A-Za-z].*")) must("a test tells '" + left + "'", false);
            begin = i + 1;
        }
    }

    private static void terms(String document) throws IOException {
        p7_cuts();
        p4_standsFirst();
        p32_butWhereTold();
        p13_none();
        p9_days();
        p4_couples();
        p6_comes();
        p7_asKnown();
        p8_order();
        p13_past();
        p14_old();
        p17_text();
        p17_goesOn();
        p17_inBrackets();
        p20_made();
        p22_parts();
        p26_steps();
        p27_turned();
        p28_instalments();
        p30_room();
        p32_rows();
        p21_share();
        p34_unlike();
        p36_slip();
        p10_table(document);
        p40_findings();
        everyWord(document);
    }

    public static void main(String[] args) throws IOException, ReflectiveOperationException {
        String document = Files.readString(DOCUMENT);
        String source = Files.readString(SOURCE);
        face(document, source);
        order(document, source);
        terms(document);
        Boundary.finish();
    }
}

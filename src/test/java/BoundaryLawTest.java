import java.util.function.Supplier;

/** Promises 11 to 19, deeds and the law: each sentence that names a boundary, at it and on each side of it. */
public final class BoundaryLawTest {
    private static final int BAD = Boundary.BAD, NO = Boundary.NO, FULL = Boundary.FULL, NONE = Boundary.NONE;
    private static final int LOW = Boundary.LOW, HIGH = Boundary.HIGH;
    private static final String FAULT = "the first byte of the first word or sign with which no TEXT goes on";
    private static final String TOO_SOON = "the end (the place behind the last byte), if it comes too soon.";

    private static void sentence(int promise, String words) {
        Boundary.sentence(promise, words);
    }

    private static void due(String what, int got, int want) {
        Boundary.due(what, got, want);
    }

    // ---- promise 11

    private static DayFines deeds(int many) {
        DayFines x = Boundary.people(0, 0);
        for (int i = 0; i < many; i++) x.deed(i % 4, 0, 0, 1 + i);
        return x;
    }

    private static void p11_thirty() {
        sentence(11, "DEEDS, 30 at most, numbered from 0");
        due("the first", deeds(0).deed(0, 0, 0, 1), 0);
        due("the 29th", deeds(28).deed(0, 0, 0, 1), 28);
        due("the 30th", deeds(29).deed(0, 0, 0, 1), 29);
        Boundary.refused("the 31st", () -> deeds(30), x -> x.deed(0, 0, 0, 1), FULL);
        Boundary.refused("the 31st, of another", () -> deeds(30), x -> x.deed(3, 1, 0, 100), FULL);
        due("how many", deeds(31).count(2), 30);
        DayFines judged = deeds(30);
        Boundary.law(judged, "days 1 sum 1 hours 1");
        judged.judge(0);
        due("a judgment makes no room", judged.deed(0, 0, 0, 1), FULL);
    }

    private static void p11_order() {
        sentence(11, "One more DEED: its number. BAD; FULL.");
        Supplier<DayFines> full = () -> deeds(30);
        Boundary.refused("kind", full, x -> x.deed(4, 0, 0, 1), BAD);
        Boundary.refused("person", full, x -> x.deed(0, 2, 0, 1), BAD);
        Boundary.refused("day", full, x -> x.deed(0, 0, 1, 1), BAD);
        Boundary.refused("weight", full, x -> x.deed(0, 0, 0, 101), BAD);
        Boundary.range("person", 0, 4, Boundary::busy, (x, v) -> x.deed(0, v, 0, 1), v -> 6);
    }

    private static void p11_day() {
        sentence(11, "on a day (0 .. TODAY)");
        Boundary.range("day", 0, 29, Boundary::busy, (x, v) -> x.deed(0, 0, v, 1), v -> 6);
        Boundary.range("day 0 alone", 0, 0, () -> deeds(1), (x, v) -> x.deed(0, 0, v, 1), v -> 1);
        DayFines last = Boundary.people(0);
        Boundary.go(last, 3000);
        due("day 3000", last.deed(0, 0, 3000, 1), 0);
        due("day 3001", last.deed(0, 0, 3001, 1), BAD);
    }

    private static void p11_kinds() {
        sentence(11, "KINDS 0 DEED, 1 THEFT, 2 DRIVING, 3 DRUNK, under DRIVING (all are DEEDS)");
        Boundary.range("kind", 0, 3, Boundary::busy, (x, v) -> x.deed(v, 0, 0, 1), v -> 6);
    }

    private static void p11_weight() {
        sentence(11, "a WEIGHT 1 .. 100");
        Boundary.range("weight", 1, 100, Boundary::busy, (x, v) -> x.deed(0, 0, 0, v), v -> 6);
        DayFines x = Boundary.people(0);
        x.deed(0, 0, 0, 1);
        x.deed(0, 0, 0, 100);
        due("1 is kept", x.told(0, 3), 1);
        due("100 is kept", x.told(1, 3), 100);
    }

    // ---- promise 12

    private static void p12_kinds() {
        sentence(12, "3 DRUNK, under DRIVING (all are DEEDS)");
        int[][] want = {{1, 0, 0, 0}, {1, 1, 0, 0}, {1, 0, 1, 0}, {1, 0, 1, 1}};
        DayFines x = deeds(4);
        for (int d = 0; d < 4; d++) {
            for (int k = 0; k < 4; k++) due("isOf(" + d + ", " + k + ")", x.isOf(d, k), want[d][k]);
        }
    }

    private static void p12_bad() {
        sentence(12, "Whether a DEED is of a KIND: 1, 0. BAD.");
        Boundary.range("deed", 0, 5, Boundary::busy, (x, v) -> x.isOf(v, 0), v -> 1);
        Boundary.range("kind", 0, 3, Boundary::busy, (x, v) -> x.isOf(2, v), v -> v == 1 ? 0 : 1);
        due("no deed at all", Boundary.people(0).isOf(0, 0), BAD);
        Boundary.unchanged("an answer", Boundary::busy, x -> x.isOf(0, 0));
    }

    // ---- promise 13

    private static void p13_arguments() {
        sentence(13, "Of a DEED: what 0 KIND, 1 PERSON, 2 day, 3 WEIGHT, 4 PAST as it is now, 5 its JUDGMENT (NONE). BAD.");
        int[] want = {2, 0, 20, 30, 1, NONE};
        Boundary.range("what", 0, 5, Boundary::busy, (x, v) -> x.told(4, v), v -> want[v]);
        for (int what = 0; what <= 5; what++) due("what " + what, Boundary.busy().told(4, what), want[what]);
        Boundary.range("deed", 0, 5, Boundary::busy, (x, v) -> x.told(v, 0), v -> v == 0 ? 1 : v == 1 ? 0 : v == 4 ? 2 : 0);
        due("no deed at all", Boundary.people(0).told(0, 0), BAD);
        Boundary.refused("neither deed nor what", Boundary::busy, x -> x.told(6, 6), BAD);
        for (int what = 0; what <= 5; what++) {
            int asked = what;
            Boundary.unchanged("an answer", Boundary::busy, x -> x.told(0, asked));
        }
    }

    private static void p13_judgment() {
        sentence(13, "5 its JUDGMENT (NONE)");
        DayFines x = Boundary.busy();
        int[] want = {0, 0, 1, 2, NONE, NONE};
        for (int d = 0; d < 6; d++) due("deed " + d, x.told(d, 5), want[d]);
        x.judge(4);
        due("judged", x.told(5, 5), 3);
        due("not judged", x.told(4, 5), NONE);
    }

    /** A judgment on day 100, and a deed of that person, and of another one, so many days behind it. */
    private static int past(int behind, int years) {
        DayFines x = Boundary.court("days 1 sum 1 hours 1", 0, 0);
        Boundary.go(x, 100);
        x.deed(0, 0, 0, 1);
        x.judge(0);
        Boundary.go(x, 400);
        x.rule(1, years);
        x.deed(0, 0, 100 + behind, 1);
        x.deed(0, 1, 100 + behind, 1);
        due("of the other one, " + behind + " behind", x.told(2, 4), 0);
        return x.told(1, 4);
    }

    private static void p13_past() {
        sentence(13, "were made on days ahead of its day, at most YEARS days ahead");
        int[][] rows = {{-1, 365, 0}, {0, 365, 0}, {1, 365, 1}, {2, 365, 1}, {364, 365, 1}, {365, 365, 1}, {366, 365, 0},
            {1, 0, 0}, {0, 0, 0}, {1, 1, 1}, {2, 1, 0}, {6, 7, 1}, {7, 7, 1}, {8, 7, 0}, {400, 3000, 1}, {-100, 3000, 0}};
        for (int[] row : rows) due(row[0] + " days behind with YEARS " + row[1], past(row[0], row[1]), row[2]);
        DayFines x = Boundary.court("days 1 sum 1 hours 1", 0);
        for (int i = 0; i < 5; i++) {
            x.deed(0, 0, 0, 1);
            x.judge(0);
            x.days(1);
        }
        x.deed(0, 0, 4, 1);
        x.deed(0, 0, 5, 1);
        due("of five, four ahead", x.told(5, 4), 4);
        due("of five, five ahead", x.told(6, 4), 5);
        x.rule(1, 2);
        due("two days at most", x.told(6, 4), 2);
        due("as it is now, of a judged one", x.told(1, 4), 0);
    }

    // ---- promise 14

    private static void p14_flat() {
        sentence(14, "FLAT of a KIND: 0 .. 9999 (0 at first)");
        for (int kind = 0; kind < 4; kind++) {
            int of = kind;
            int[] was = {0, 300, 0, 900};
            due("at first", new DayFines().flat(kind, 1), 0);
            Boundary.range("v", 0, 9999, Boundary::busy, (x, v) -> x.flat(of, v), v -> was[of]);
            for (int v : new int[] {0, 1, 9998, 9999}) {
                DayFines x = new DayFines();
                x.flat(kind, v);
                due("it becomes " + v, x.flat(kind, 7), v);
            }
        }
    }

    private static void p14_bad() {
        sentence(14, "FLAT of a KIND becomes v: what it was. BAD.");
        int[] was = {0, 300, 0, 900};
        Boundary.range("kind", 0, 3, Boundary::busy, (x, v) -> x.flat(v, 5), v -> was[v]);
        Boundary.refused("neither kind nor v", Boundary::busy, x -> x.flat(4, -1), BAD);
        DayFines x = Boundary.busy();
        x.flat(2, 5);
        due("the one above stays", x.flat(0, 1), 0);
        due("the one below stays", x.flat(3, 1), 900);
    }

    // ---- promise 15

    /** A tape of so many bytes, blanks. */
    private static DayFines tape(int bytes) {
        DayFines x = Boundary.people(0);
        Boundary.feed(x, " ".repeat(bytes));
        return x;
    }

    private static void p15_full() {
        sentence(15, "FULL: it would have more than 120.");
        due("up to 12", tape(0).feed(0, 0, 0), 12);
        due("up to 13", tape(1).feed(0, 0, 0), 13);
        due("up to 119", tape(107).feed(0, 0, 0), 119);
        due("up to 120", tape(108).feed(0, 0, 0), 120);
        Boundary.refused("up to 121", () -> tape(109), x -> x.feed(0, 0, 0), FULL);
        Boundary.refused("up to 132", () -> tape(120), x -> x.feed(0, 0, 0), FULL);
        due("it keeps what it has", tape(120).count(7), 120);
        Boundary.refused("a law on the tape, full", BoundaryLawTest::wholeTape, x -> x.feed(0, 0, 0), FULL);
        due("the law of a whole tape", wholeTape().law(), 3);
    }

    private static DayFines wholeTape() {
        DayFines x = Boundary.people(0);
        Boundary.feed(x, "days 1 sum 2 hours" + " ".repeat(97) + "12345");
        return x;
    }

    private static void p15_highestFirst() {
        sentence(15, "Twelve bytes come to THE TAPE, the highest of each number first: how many it has.");
        DayFines x = Boundary.people(0);
        x.feed(0x64617973, 0x20372073, 0x756d2038);
        x.feed(0x20686f75, 0x72732039, 0x20202020);
        due("days 7 sum 8 hours 9", x.law(), 3);
        x.deed(0, 0, 0, 1);
        due("days", x.worth(0), 7);
        due("sum", x.sum(0, 0, 0), 8);
        for (int at = 0; at < 12; at++) {
            int[] words = {0x20202020, 0x20202020, 0x20202020};
            words[at / 4] ^= (0x20 ^ 0xff) << (24 - 8 * (at % 4));
            DayFines y = new DayFines();
            due("twelve", y.feed(words[0], words[1], words[2]), 12);
            due("byte 255 at " + at, y.law(), -100 - at);
        }
        due("all bits", new DayFines().feed(-1, -1, -1), 12);
        due("any number", new DayFines().feed(LOW, HIGH, 0), 12);
    }

    // ---- promise 16

    private static void p16_trim() {
        sentence(16, "THE TAPE keeps its first n bytes: n. BAD.");
        Boundary.range("n of 25", 0, 25, Boundary::busy, DayFines::trim, v -> v);
        Boundary.range("n of none", 0, 0, () -> tape(0), DayFines::trim, v -> v);
        Boundary.range("n of 120", 0, 120, () -> tape(120), DayFines::trim, v -> v);
        Boundary.range("bytes of 120", 0, 120, () -> tape(120), (x, v) -> x.trim(v) == BAD ? BAD : x.count(7), v -> v);
        DayFines x = tape(0);
        Boundary.feed(x, "days 1 sum 2 hours 34");
        x.trim(20);
        due("what was cut off does not come back", x.trim(21), BAD);
        Boundary.feed(x, "5");
        due("what comes next comes behind", x.count(7), 21);
        due("days 1 sum 2 hours 35", x.law(), 3);
    }

    // ---- promise 17

    private static void faultAt(String text, int place) {
        due("law of '" + text + "'", Boundary.law(new DayFines(), text), -100 - place);
    }

    /** The fault is where the sign ^ stands, which is no byte of the text. */
    private static void fault(String marked) {
        faultAt(marked.replace("^", ""), marked.indexOf('^'));
    }

    private static void parts(String text, int parts) {
        due("law of '" + text + "'", Boundary.law(new DayFines(), text), parts);
    }

    private static void p17_stays() {
        sentence(17, "-100 less the place of its fault: then THE LAW stays.");
        DayFines x = Boundary.busy();
        int days = x.worth(0);
        int sum = x.sum(0, 0, 0);
        x.trim(0);
        due("place 0", Boundary.law(x, "+"), -100);
        due("place 1", Boundary.law(x, " +"), -101);
        due("place 119", Boundary.law(x, " ".repeat(119) + "+"), -219);
        due("place 120", Boundary.law(x, " ".repeat(120)), -220);
        due("a fault in the hours", Boundary.law(x, "days 99 sum 99 hours g"), -121);
        due("days stay", x.worth(0), days);
        due("sum stays", x.sum(0, 0, 0), sum);
        DayFines none = Boundary.people(0);
        due("a fault", Boundary.law(none, "days 1 sum 1 hours"), -118);
        due("there is still none", none.sum(0, 0, 0), NO);
        Supplier<DayFines> empty = () -> {
            DayFines y = Boundary.busy();
            y.trim(0);
            return y;
        };
        Boundary.refused("an empty tape", empty, DayFines::law, -100);
        Boundary.refused("a fault in the hours", empty, y -> Boundary.law(y, "days 9 sum 9 hours g"), -119);
        Boundary.refused("too soon an end", empty, y -> Boundary.law(y, "days 9 sum 9 hours !((9)"), -124);
    }

    private static void p17_usedUp() {
        sentence(17, "an act that reads it uses it up, whatever it answers");
        DayFines x = Boundary.people(0);
        due("a law", Boundary.law(x, "days 1 sum 1 hours 1"), 3);
        due("bytes", x.count(7), 0);
        due("nothing more to read", x.law(), -100);
        due("a fault", Boundary.law(x, "days 1 sum 1 hours 1 1"), -121);
        due("bytes", x.count(7), 0);
        due("a full tape", Boundary.law(x, "!".repeat(120)), -100);
        due("bytes", x.count(7), 0);
        due("twelve come anew", x.feed(0, 0, 0), 12);
    }

    private static void p17_nothingLeft() {
        sentence(17, "THE TAPE is THE LAW");
        String[] open = {"days 1+1+1 sum ((((((((", "days 1+1+1 sum !!!!!!!!", "days 1+", "days (!(!(1-2*3<4", "days", "days !(1+(2"};
        for (String text : open) {
            DayFines x = Boundary.people(0);
            x.deed(0, 0, 0, 1);
            due("it ends too soon", Boundary.law(x, text), -100 - text.length());
            due("the next one", Boundary.law(x, "days ((((((((9))))))))+1 sum !!!!!!!!5+6 hours 1"), 5);
            due("days", x.worth(0), 10);
            due("sum", x.sum(0, 0, 0), 7);
            due("none ahead of it", Boundary.law(x, "1"), -100);
        }
        DayFines many = Boundary.people(0);
        many.deed(0, 0, 0, 1);
        for (int i = 1; i <= 30; i++) {
            due("law " + i, Boundary.law(many, "days 1" + "+1".repeat(i) + " sum " + i + " hours " + i), 3 + i);
            due("days", many.worth(0), 1 + i);
            due("sum", many.sum(0, 0, 0), i);
        }
    }

    private static void p17_parts() {
        sentence(17, "THE TAPE is THE LAW: how many NUMBERS and NAMES it has.");
        parts("days 1 sum 1 hours 1", 3);
        parts("days g sum i hours u", 3);
        parts("days g+1 sum i hours u", 4);
        parts("days !g sum (i) hours ((u))", 3);
        parts("days 1 sum 1+1+1+1 hours 1", 6);
        parts("days 1" + "+1".repeat(49) + " sum 1 hours 10", 52);
        parts("days 1" + "+1".repeat(50) + " sum 1 hours 1", 53);
    }

    private static void p17_digits() {
        sentence(17, "NUMBER (1 to 5 digits)");
        parts("days 1 sum 1 hours 1", 3);
        parts("days 1234 sum 1 hours 1", 3);
        parts("days 12345 sum 1 hours 1", 3);
        parts("days 00000 sum 99999 hours 1", 3);
        fault("days ^123456 sum 1 hours 1");
        fault("days ^000001 sum 1 hours 1");
        fault("days ^12345678901234567890 sum 1 hours 1");
        fault("days 1 sum 1 hours ^123456");
        parts("days 1 sum 1 hours 12345", 3);
        fault("days 1+^123456 sum 1 hours 1");
        sentence(17, "a NUMBER of more than 5 digits");
        fault("days 1 sum ^100000 hours 1");
        parts("days 1 sum 10000 hours 1", 3);
        parts("days 1 sum 99999 hours 1", 3);
    }

    private static void p17_names() {
        sentence(17, "NAMES, each one letter: of days g WEIGHT, p PAST, a whether it is DRIVING (1, 0), k its KIND; "
            + "of sum i what one EARNS, n NEEDY, w WEALTH, d DEBT, s whether a STUDENT (1, 0); of hours u UNPAID days; "
            + "of all y whether YOUNG (1, 0).");
        String[] own = {"gpaky", "inwdsy", "uy"};
        String[] texts = {"days ? sum 1 hours 1", "days 1 sum ? hours 1", "days 1 sum 1 hours ?"};
        for (int e = 0; e < 3; e++) {
            for (char name = 0; name < 256; name++) {
                String text = texts[e].replace('?', name);
                boolean isPart = own[e].indexOf(name) >= 0 || name >= '0' && name <= '9';
                if (isPart) parts(text, 3);
                else if (name != ' ' && name != '(' && name != '!') faultAt(text, texts[e].indexOf('?'));
            }
            for (char name : own[e].toCharArray()) {
                String twice = texts[e].replace("?", "" + name + name);
                faultAt(twice, texts[e].indexOf('?'));
            }
        }
    }

    private static void p17_headings() {
        sentence(17, "days E sum E hours E");
        String[] headings = {"days", "sum", "hours"};
        String[] texts = {"^? 1 sum 1 hours 1", "days 1 ^? 1 hours 1", "days 1 sum 1 ^? 1"};
        for (int e = 0; e < 3; e++) {
            for (int i = 0; i < headings[e].length(); i++) {
                StringBuilder word = new StringBuilder(headings[e]);
                word.setCharAt(i, 'x');
                fault(texts[e].replace("?", word));
            }
            for (String other : headings) {
                if (!other.equals(headings[e])) fault(texts[e].replace("?", other));
            }
        }
        fault("^day 1 sum 1 hours 1");
        fault("^dayss 1 sum 1 hours 1");
        fault("^Days 1 sum 1 hours 1");
        fault("^sum 1 days 1 hours 1");
        fault("^hours 1");
        fault("^1 days 1 sum 1 hours 1");
        fault("days ^sum 1 hours 1");
        fault("days 1 ^hours 1 sum 1");
        fault("days 1 ^days 1 sum 1 hours 1");
        fault("days 1 ^su 1 hours 1");
        fault("days 1 ^sums 1 hours 1");
        fault("days 1 sum ^hours 1");
        fault("days 1 sum 1 ^sum 1 hours 1");
        fault("days 1 sum 1 ^hour 1");
        fault("days 1 sum 1 ^hourss 1");
        fault("days 1 sum 1 hours 1 ^hours 1");
        fault("days 1 sum 1 hours 1 ^days 1 sum 1 hours 1");
        fault("days (1 ^sum 1 hours 1");
        fault("days 1+^sum 1 hours 1");
        fault("days !^sum 1 hours 1");
    }

    private static void p17_words() {
        sentence(17, "A word is a row of letters a .. z, or of digits, as long as it goes; any other byte is a sign by itself.");
        fault("^daysg sum 1 hours 1");
        fault("days ^gz sum 1 hours 1");
        fault("days ^ga sum 1 hours 1");
        fault("days ^zg sum 1 hours 1");
        fault("days 1^z sum 1 hours 1");
        fault("days 1^a sum 1 hours 1");
        fault("days g^0 sum 1 hours 1");
        fault("days g^9 sum 1 hours 1");
        parts("days 10 sum 19 hours 90", 3);
        parts("days 01 sum 91 hours 09", 3);
        fault("days g^`sum 1 hours 1");
        fault("days g^{sum 1 hours 1");
        fault("days g/^sum 1 hours 1");
        fault("days g^: sum 1 hours 1");
        fault("days g^Asum 1 hours 1");
        parts("days(g)sum(1)hours(1)", 3);
        parts("days!g sum!1 hours!1", 3);
        parts("days 1<2 sum 1 hours 1", 4);
        fault("days 1<^=2 sum 1 hours 1");
        fault("days 1=^=2 sum 1 hours 1");
        fault("days 1&^&2 sum 1 hours 1");
        fault("days 1 ^2 sum 1 hours 1");
        fault("days g ^p sum 1 hours 1");
        fault("days g ^1 sum 1 hours 1");
        fault("days 1 ^g sum 1 hours 1");
    }

    private static void p17_blanks() {
        sentence(17, "Between words and signs, and at the ends, there may be blanks (byte 32)");
        parts("days 1 sum 1 hours 1", 3);
        parts(" days 1 sum 1 hours 1 ", 3);
        parts("    days    1    +    1    sum    (    1    )    hours    !    1    ", 4);
        for (char blank : new char[] {0, 9, 10, 13, 31, 34, 160, 255}) {
            faultAt("days" + blank + "1 sum 1 hours 1", 4);
            faultAt(blank + "days 1 sum 1 hours 1", 0);
            faultAt("days 1 sum 1 hours 1" + blank, 20);
        }
        sentence(17, "a word right behind another one needs one");
        fault("days^1 sum 1 hours 1");
        parts("days 1 sum 1 hours 1", 3);
        fault("days 1^sum 1 hours 1");
        fault("days 1 sum^1 hours 1");
        fault("days 1 sum 1^hours 1");
        fault("days 1 sum 1 hours^1");
        fault("days g^1 sum 1 hours 1");
        fault("days 1^g sum 1 hours 1");
        parts("days(1)sum(1)hours(1)", 3);
        sentence(17, "a word that needs a blank ahead of it");
        fault("days (1)sum^1 hours 1");
        fault("days 1+1^sum 1 hours 1");
        fault("days 1 sum 1 hours (1)+1^y");
    }

    private static void p17_ninthParen() {
        sentence(17, "the ninth (");
        for (int many = 1; many <= 8; many++) {
            parts("days " + "(".repeat(many) + "1" + ")".repeat(many) + " sum 1 hours 1", 3);
            parts("days 1 sum 1 hours " + "(".repeat(many) + "1" + ")".repeat(many), 3);
        }
        for (int many = 9; many <= 11; many++) {
            faultAt("days " + "(".repeat(many) + "1" + ")".repeat(many) + " sum 1 hours 1", 13);
            faultAt("days 1 sum 1 hours " + "(".repeat(many) + "1" + ")".repeat(many), 27);
        }
        parts("days " + "(1)+".repeat(12) + "1 sum 1 hours 1", 15);
        parts("days " + "((((((((1))))))))+((((((((1))))))))" + " sum ((((((((1)))))))) hours 1", 4);
        fault("days (((((((1)+((^(1)))))))) sum 1 hours 1");
        parts("days (((((((1)+((1)))))))) sum 1 hours 1", 4);
        fault("days (1+(1+(1+(1+(1+(1+(1+(1+^(1))))))))) sum 1 hours 1");
        fault("days !(!(!(!(!(!(!(!(^(1))))))))) sum 1 hours 1");
    }

    private static void p17_ninthNot() {
        sentence(17, "the ninth ! that would be open within one another");
        for (int many = 1; many <= 8; many++) parts("days " + "!".repeat(many) + "1 sum 1 hours 1", 3);
        for (int many = 9; many <= 11; many++) faultAt("days " + "!".repeat(many) + "1 sum 1 hours 1", 13);
        parts("days " + "!1+".repeat(12) + "1 sum 1 hours 1", 15);
        parts("days !!!!!!!!1+!!!!!!!!1 sum !!!!!!!!1 hours !!!!!!!!1", 4);
        parts("days !!!!!!!!(1)+!!!!!!!!(1) sum 1 hours 1", 4);
        fault("days !!!!(!!!!(^!1)) sum 1 hours 1");
        parts("days !!!!(!!!!(1)) sum 1 hours 1", 3);
        parts("days !!!!(!!!!1+!!!!1) sum 1 hours 1", 4);
        fault("days !!!!(!!!!1+!!!!^!1) sum 1 hours 1");
        fault("days !(!(!(!(!(!(!(!(^!1)))))))) sum 1 hours 1");
        parts("days !(!(!(!(!(!(!(!(1)))))))) sum 1 hours 1", 3);
        parts("days !!!!!!!!((((((((1)))))))) sum 1 hours 1", 3);
    }

    private static void p17_tests() {
        sentence(17, "TEST: SUM [ (< | = | >) SUM ]");
        for (char one : "<=>".toCharArray()) {
            parts("days 1" + one + "2 sum 1 hours 1", 4);
            for (char two : "<=>".toCharArray()) {
                fault("days 1" + one + "2^" + two + "3 sum 1 hours 1");
                fault("days 1" + one + "2+3*4^" + two + "3 sum 1 hours 1");
                parts("days (1" + one + "2)" + two + "3 sum 1 hours 1", 5);
                parts("days 1" + one + "(2" + two + "3) sum 1 hours 1", 5);
                parts("days 1" + one + "2&3" + two + "4 sum 1 hours 1", 6);
                parts("days 1" + one + "2|3" + two + "4 sum 1 hours 1", 6);
                fault("days 1" + one + "2&3" + two + "4^" + one + "5 sum 1 hours 1");
            }
        }
    }

    private static void p17_fault() {
        sentence(17, FAULT);
        fault("days ^+1 sum 1 hours 1");
        fault("days ^-1 sum 1 hours 1");
        fault("days ^) sum 1 hours 1");
        fault("days (^) sum 1 hours 1");
        fault("days 1^) sum 1 hours 1");
        fault("days (1)^) sum 1 hours 1");
        fault("days 1^( sum 1 hours 1");
        fault("days 1^! sum 1 hours 1");
        fault("days 1+^*2 sum 1 hours 1");
        fault("days 1     ^% sum 1 hours 1");
        fault("days 1 sum 1 hours 1 ^.");
        fault("days (1)^(2) sum 1 hours 1");
        fault("days (1)^2 sum 1 hours 1");
        fault("days 1 sum (1 ^hours 1");
        fault("^(days 1 sum 1 hours 1)");
    }

    private static void p17_tooSoon() {
        sentence(17, TOO_SOON);
        String text = "days (1) sum (1) hours (1)";
        for (int n = 0; n < text.length(); n++) {
            DayFines x = new DayFines();
            Boundary.feed(x, text);
            x.trim(n);
            boolean isHalfWord = n >= 1 && n <= 3 || n >= 10 && n <= 11 || n >= 18 && n <= 21;
            int want = n < 4 ? 0 : n < 12 ? 9 : 17;
            due("the first " + n + " bytes", x.law(), -100 - (isHalfWord ? want : n));
        }
        parts(text, 3);
        faultAt("days 1 sum 1 hours    ", 22);
        faultAt("days 1 sum 1 hours 1+", 21);
        faultAt("days 1 sum 1 hours 1+   ", 24);
        faultAt("days 1 sum 1 hours !", 20);
        faultAt("days 1 sum 1 hours ((1)", 23);
        faultAt("days 1 sum 1", 12);
        faultAt("days 1", 6);
        faultAt("", 0);
        faultAt(" ", 1);
    }

    // ---- promise 18

    private static int worth(String e, int least, int most) {
        DayFines x = Boundary.court("days " + e + " sum 1 hours 1", 0);
        x.rule(2, least);
        x.rule(3, most);
        x.deed(0, 0, 0, 1);
        return x.worth(0);
    }

    private static void p18_bounds() {
        sentence(18, "LEAST at least, MOST at most. BAD; NO: there is no LAW.");
        int[][] rows = {{9, 10, 20, 10}, {10, 10, 20, 10}, {11, 10, 20, 11}, {19, 10, 20, 19}, {20, 10, 20, 20},
            {21, 10, 20, 20}, {0, 0, 999, 0}, {1, 0, 999, 1}, {998, 0, 999, 998}, {999, 0, 999, 999}, {1000, 0, 999, 999},
            {99999, 0, 999, 999}, {0, 999, 999, 999}, {5, 0, 0, 0}};
        for (int[] row : rows) due(row[0] + " in " + row[1] + " .. " + row[2], worth("" + row[0], row[1], row[2]), row[3]);
        due("below 0", worth("0-1", 0, 999), 0);
        due("far below 0", worth("0-32768*65536", 5, 999), 5);
        Boundary.range("deed", 0, 5, Boundary::busy, (x, v) -> x.worth(v), v -> v == 0 ? 21 : v == 1 ? 6 : v == 4 ? 19 : 16);
        Boundary.refused("no law", () -> deeds(2), x -> x.worth(1), NO);
        Boundary.refused("no law, BAD stands first", () -> deeds(2), x -> x.worth(2), BAD);
        Boundary.refused("no law, BAD stands first, below", () -> deeds(2), x -> x.worth(-1), BAD);
        Boundary.unchanged("an answer", Boundary::busy, x -> x.worth(0));
        sentence(18, "(LEAST above MOST, FLOOR above ROOF: MOST, ROOF counts.)");
        for (int v : new int[] {9, 10, 11, 12, 15, 19, 20, 21}) due(v + " in 20 .. 10", worth("" + v, 20, 10), 10);
        due("0 in 999 .. 0", worth("0", 999, 0), 0);
        due("in 11 .. 10", worth("11", 11, 10), 10);
    }

    private static void p18_names() {
        sentence(18, "What E of days gives for a DEED (of the PERSON as they are)");
        int[][] rows = {{0, 0, 0}, {1, 0, 1}, {2, 0, 1}, {3, 0, 0}};
        for (int[] row : rows) {
            for (int kind = 0; kind < 4; kind++) {
                DayFines x = Boundary.court("days g+a*100+k*200+y*50 sum 1 hours 1", row[0]);
                Boundary.widen(x);
                x.deed(kind, 0, 0, 1);
                x.deed(kind, 0, 0, 49);
                int rest = (kind >= 2 ? 100 : 0) + kind * 200 + row[2] * 50;
                due("weight 1, kind " + kind, x.worth(0), 1 + rest);
                due("weight 49, kind " + kind, x.worth(1), 49 + rest);
            }
        }
        DayFines past = Boundary.court("days 10+p sum 1 hours 1", 0);
        past.deed(0, 0, 0, 1);
        past.judge(0);
        past.days(1);
        past.deed(0, 0, 0, 1);
        past.deed(0, 0, 1, 1);
        due("past of 0", past.worth(1), 10);
        due("past of 1", past.worth(2), 11);
    }

    private static void gives(String e, int want) {
        DayFines x = Boundary.court("days 0 sum " + e + " hours 0", 0);
        x.rule(6, 0);
        x.rule(7, 9999);
        due("sum of " + e, x.sum(0, 0, 0), want);
    }

    // ---- promise 19

    private static void p19_wrap() {
        sentence(19, "Ints wrap");
        gives("(32767*65536+65535=32768*65536-1)", 1);
        gives("32767*65536+65535>0", 1);
        gives("32767*65536+65535+1<0", 1);
        gives("32768*65536<0", 1);
        gives("0-32768*65536<0", 1);
        gives("0-32768*65536-1>0", 1);
        gives("65536*65536", 0);
        gives("65536*65536+7", 7);
        gives("99999*99999/99999-14000", 98);
        gives("99999*21475<0", 0);
        gives("99999*21476<0", 1);
    }

    private static void p19_cuts() {
        sentence(19, "/ cuts towards 0, and is 0 by 0");
        gives("7/2", 3);
        gives("8/2", 4);
        gives("9/2", 4);
        gives("1/2", 0);
        gives("10+(0-7)/2", 7);
        gives("10+7/(0-2)", 7);
        gives("10+(0-8)/2", 6);
        gives("10+(0-7)/(0-2)", 13);
        gives("10+(0-1)/2", 10);
        gives("7/1", 7);
        gives("7/0", 0);
        gives("0/0", 0);
        gives("5+7/0", 5);
        gives("7/0*3+1", 1);
        gives("10+7/(0-1)", 3);
        gives("32768*65536/(0-1)=32768*65536", 1);
        gives("32768*65536/0", 0);
        gives("7/(3-3)", 0);
    }

    private static void p19_tests() {
        sentence(19, "tests, & | ! give 1 or 0 (what is not 0 is true; both sides are worked out)");
        int[] values = {-1, 0, 1, 2};
        for (int a : values) {
            String left = a < 0 ? "(0-1)" : "" + a;
            gives("!" + left, a == 0 ? 1 : 0);
            gives("!!" + left, a == 0 ? 0 : 1);
            for (int b : values) {
                String right = b < 0 ? "(0-1)" : "" + b;
                gives(left + "<" + right, a < b ? 1 : 0);
                gives(left + "=" + right, a == b ? 1 : 0);
                gives(left + ">" + right, a > b ? 1 : 0);
                gives(left + "&" + right, a != 0 && b != 0 ? 1 : 0);
                gives(left + "|" + right, a != 0 || b != 0 ? 1 : 0);
            }
        }
        gives("0&7/0", 0);
        gives("1|7/0", 1);
    }

    private static void p19_loosest() {
        sentence(19, "E, the loosest first: OR: AND { | AND }; AND: TEST { & TEST }; TEST: SUM [ (< | = | >) SUM ]; "
            + "SUM: TERM { (+ | -) TERM }; TERM: PART { (* | /) PART }; "
            + "PART: NUMBER (1 to 5 digits) | NAME | ! PART | ( E ).");
        gives("1|1&0", 1);
        gives("(1|1)&0", 0);
        gives("0&0|1", 1);
        gives("2=2&1", 1);
        gives("2=(2&1)", 0);
        gives("1<1+1", 1);
        gives("(1<1)+1", 1);
        gives("3-1<1", 0);
        gives("3-(1<1)", 3);
        gives("2+3*4", 14);
        gives("(2+3)*4", 20);
        gives("20-6/2", 17);
        gives("20-5-3", 12);
        gives("20-(5-3)", 18);
        gives("20-5+3", 18);
        gives("100/5/2", 10);
        gives("100/(5/2)", 50);
        gives("7/2*2", 6);
        gives("7*2/4", 3);
        gives("!0*5", 5);
        gives("!(0*5)", 1);
        gives("!1+1", 1);
        gives("!(1+1)", 0);
        gives("!0=1", 1);
        gives("!(0=1)", 1);
        gives("!!0+3", 3);
    }

    private static int sum(String e, int floor, int roof) {
        DayFines x = Boundary.court("days 1 sum " + e + " hours 1", 0);
        x.rule(6, floor);
        x.rule(7, roof);
        return x.sum(0, 0, 0);
    }

    private static void p19_bounds() {
        sentence(19, "FLOOR at least, ROOF at most");
        int[][] rows = {{9, 10, 20, 10}, {10, 10, 20, 10}, {11, 10, 20, 11}, {19, 10, 20, 19}, {20, 10, 20, 20},
            {21, 10, 20, 20}, {0, 0, 9999, 0}, {1, 0, 9999, 1}, {9998, 0, 9999, 9998}, {9999, 0, 9999, 9999},
            {10000, 0, 9999, 9999}, {99999, 0, 9999, 9999}, {0, 9999, 9999, 9999}, {5, 0, 0, 0}};
        for (int[] row : rows) due(row[0] + " in " + row[1] + " .. " + row[2], sum("" + row[0], row[1], row[2]), row[3]);
        due("below 0", sum("0-1", 0, 9999), 0);
        due("far below 0", sum("0-32768*65536", 5, 9999), 5);
        sentence(19, "(LEAST above MOST, FLOOR above ROOF: MOST, ROOF counts.)");
        for (int v : new int[] {9, 10, 11, 15, 19, 20, 21}) due(v + " in 20 .. 10", sum("" + v, 20, 10), 10);
        due("in 11 .. 10", sum("11", 11, 10), 10);
    }

    private static void p19_arguments() {
        sentence(19, "SUM for a PERSON by FACTS of a day (0 .. 3000) AS KNOWN on another one (0 .. TODAY). BAD; NO: there is no LAW.");
        Supplier<DayFines> busy = Boundary::busy;
        Boundary.range("person", 0, 4, busy, (x, v) -> x.sum(v, 0, 0), v -> v == 0 ? 101 : v == 3 ? 139 : 34);
        Boundary.range("day", 0, 3000, busy, (x, v) -> x.sum(0, v, 0), v -> 101);
        Boundary.range("as of", 0, 29, busy, (x, v) -> x.sum(0, 0, v), v -> v < 29 ? 101 : 201);
        Supplier<DayFines> lawless = () -> Boundary.people(0, 1);
        Boundary.refused("no law", lawless, x -> x.sum(1, 3000, 0), NO);
        Boundary.refused("BAD stands first: person", lawless, x -> x.sum(2, 0, 0), BAD);
        Boundary.refused("BAD stands first: day", lawless, x -> x.sum(0, 3001, 0), BAD);
        Boundary.refused("BAD stands first: as of", lawless, x -> x.sum(0, 0, 1), BAD);
        Boundary.unchanged("an answer", busy, x -> x.sum(0, 0, 0));
    }

    private static void p19_names() {
        sentence(19, "of sum i what one EARNS, n NEEDY, w WEALTH, d DEBT, s whether a STUDENT (1, 0)");
        for (int kind = 0; kind < 4; kind++) {
            DayFines x = Boundary.court("days 1 sum i+n*10+w+d*100+s*500+y*1000 hours 1", kind);
            Boundary.widen(x);
            x.rule(0, 3);
            x.fact(0, 1, 0, 2, 1);
            x.fact(0, 2, 0, 96, 1);
            x.fact(0, 3, 0, 7, 1);
            int kindly = (kind == 2 ? 500 : 0) + (kind == 1 || kind == 2 ? 1000 : 0);
            due("kind " + kind + " on day 0", x.sum(0, 0, 0), 3 + kindly);
            due("kind " + kind + " on day 1", x.sum(0, 1, 0), (kind == 3 ? 4 : 3) + 20 + 96 + 700 + kindly);
        }
    }

    public static void main(String[] args) {
        p11_thirty();
        p11_order();
        p11_day();
        p11_kinds();
        p11_weight();
        p12_kinds();
        p12_bad();
        p13_arguments();
        p13_judgment();
        p13_past();
        p14_flat();
        p14_bad();
        p15_full();
        p15_highestFirst();
        p16_trim();
        p17_stays();
        p17_usedUp();
        p17_nothingLeft();
        p17_parts();
        p17_digits();
        p17_names();
        p17_headings();
        p17_words();
        p17_blanks();
        p17_ninthParen();
        p17_ninthNot();
        p17_tests();
        p17_fault();
        p17_tooSoon();
        p18_bounds();
        p18_names();
        p19_wrap();
        p19_cuts();
        p19_tests();
        p19_loosest();
        p19_bounds();
        p19_arguments();
        p19_names();
        Boundary.end(11, 19);
    }
}

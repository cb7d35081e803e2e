import java.util.ArrayList;
import java.util.Arrays;
import java.util.List;
import java.util.Random;

/** Random runs of 512 calls, each answer against a slow model that follows the document's words one by one. */
public final class ModelTest {
    private static final int BAD = DayFines.BAD, NO = DayFines.NO, FULL = DayFines.FULL, NONE = DayFines.NONE;
    private static final int NOTHING = DayFines.NOTHING, INDEX = DayFines.INDEX, SIZE = DayFines.SIZE;

    private static final int RUNS = 1500, CALLS = 512;
    private static final String[] NAMES = {"person", "is", "couple", "part", "fact", "known", "custody", "days", "rule",
        "deed", "isOf", "told", "flat", "feed", "trim", "law", "worth", "sum", "judge", "about", "appeal", "reopen",
        "pay", "back", "step", "work", "level", "month", "room", "tell", "check", "alike", "unlike", "spread", "slip",
        "keep", "again", "sheet", "mark", "copy", "count"};
    private static final int[] OFTEN = {4, 2, 3, 1, 16, 6, 3, 14, 8,
        14, 2, 6, 3, 0, 2, 6, 5, 5, 14, 24, 6, 5, 10, 5, 14, 6, 10, 10, 5, 4, 8, 6, 4, 4, 8,
        1, 1, 3, 8, 4, 5};
    private static final String[] OWN_NAMES = {"gpaky", "inwdsy", "uy"};

    private static final class Fault extends Exception {
        private static final long serialVersionUID = 1L;
        final int place;

        Fault(int place) {
            this.place = place;
        }
    }

    private interface Node {
        int value(int[] names);
    }

    /** The law, by descent over the grammar. */
    private static final class Parser {
        final String text;
        int at = 0;
        int section = 0;
        int parts = 0;
        final Node[] e = new Node[3];

        Parser(String text) throws Fault {
            this.text = text;
            String[] headings = {"days", "sum", "hours"};
            for (section = 0; section < 3; section++) {
                if (!peek().equals(headings[section])) fail();
                take();
                e[section] = or(0, 0);
            }
            if (!peek().isEmpty()) fail();
        }

        int start() {
            int i = at;
            while (i < text.length() && text.charAt(i) == ' ') i++;
            return i;
        }

        String peek() throws Fault {
            String rest = text.substring(start());
            if (rest.isEmpty()) return "";
            String word = rest.replaceAll("(?s)^([a-z]+|[0-9]+|.).*$", "$1");
            boolean isWord = word.matches("[a-z0-9]+");
            if (isWord && start() == at && at > 0 && text.substring(at - 1, at).matches("[a-z0-9]")) fail();
            return word;
        }

        String take() throws Fault {
            String word = peek();
            at = start() + word.length();
            return word;
        }

        void fail() throws Fault {
            throw new Fault(start());
        }

        boolean sees(String signs) throws Fault {
            String word = peek();
            return word.length() == 1 && signs.contains(word);
        }

        Node or(int parens, int nots) throws Fault {
            Node left = and(parens, nots);
            while (sees("|")) {
                take();
                left = both("|", left, and(parens, nots));
            }
            return left;
        }

        Node and(int parens, int nots) throws Fault {
            Node left = test(parens, nots);
            while (sees("&")) {
                take();
                left = both("&", left, test(parens, nots));
            }
            return left;
        }

        Node test(int parens, int nots) throws Fault {
            Node left = total(parens, nots);
            if (!sees("<=>")) return left;
            String sign = take();
            return both(sign, left, total(parens, nots));
        }

        Node total(int parens, int nots) throws Fault {
            Node left = term(parens, nots);
            while (sees("+-")) {
                String sign = take();
                left = both(sign, left, term(parens, nots));
            }
            return left;
        }

        Node term(int parens, int nots) throws Fault {
            Node left = part(parens, nots);
            while (sees("*/")) {
                String sign = take();
                left = both(sign, left, part(parens, nots));
            }
            return left;
        }

        Node part(int parens, int nots) throws Fault {
            String word = peek();
            if (word.equals("!")) {
                if (nots == 8) fail();
                take();
                Node inner = part(parens, nots + 1);
                return names -> inner.value(names) == 0 ? 1 : 0;
            }
            if (word.equals("(")) {
                if (parens == 8) fail();
                take();
                Node inner = or(parens + 1, nots);
                if (!peek().equals(")")) fail();
                take();
                return inner;
            }
            boolean isName = word.length() == 1 && OWN_NAMES[section].contains(word);
            if (!word.matches("[0-9]{1,5}") && !isName) fail();
            take();
            parts++;
            if (isName) return names -> names[word.charAt(0)];
            int number = Integer.parseInt(word);
            return names -> number;
        }

        static Node both(String sign, Node left, Node right) {
            return names -> {
                int a = left.value(names);
                int b = right.value(names);
                switch (sign) {
                    case "|": return a != 0 || b != 0 ? 1 : 0;
                    case "&": return a != 0 && b != 0 ? 1 : 0;
                    case "<": return a < b ? 1 : 0;
                    case "=": return a == b ? 1 : 0;
                    case ">": return a > b ? 1 : 0;
                    case "+": return a + b;
                    case "-": return a - b;
                    case "*": return a * b;
                    default: return b == 0 ? 0 : a / b;
                }
            };
        }
    }

    /** All that an image keeps; rows of ints, as the calls tell them. */
    private static final class Kept {
        int today = 0;
        int[] rules = {1000, 365, 1, 120, 50, 240, 1, 1000, 30, 400, 4, 30, 365, 300, 50, 0};
        int[] flats = new int[4];
        Parser law = null;
        List<int[]> people = new ArrayList<>();    // kind, other or -1, custody
        List<int[]> facts = new ArrayList<>();     // person, what, source, value, from, known
        List<int[]> deeds = new ArrayList<>();     // kind, person, day, weight, judgment or -1
        List<int[]> judgments = new ArrayList<>(); // person, day, days, sum, paid, step, step's day, hours, 2 * appealed

        Kept copied() {
            Kept c = new Kept();
            c.today = today;
            c.rules = rules.clone();
            c.flats = flats.clone();
            c.law = law;
            for (int[] row : people) c.people.add(row.clone());
            for (int[] row : facts) c.facts.add(row.clone());
            for (int[] row : deeds) c.deeds.add(row.clone());
            for (int[] row : judgments) c.judgments.add(row.clone());
            return c;
        }
    }

    private static final class Model {
        static final int[] MOST = {99999, 3000, 999, 999, 100, 9999, 9999, 9999, 3000, 3000, 100, 3000, 3000, 9999, 100,
            9999};

        Kept k = new Kept();
        Kept image = null;
        String tape = "";
        List<Integer> waiting = new ArrayList<>();
        int[][] sheets = new int[2][];

        static boolean out(int v, int least, int most) {
            return v < least || v > most;
        }

        boolean noPerson(int p) {
            return out(p, 0, k.people.size() - 1);
        }

        boolean noDeed(int d) {
            return out(d, 0, k.deeds.size() - 1);
        }

        boolean noJudgment(int j) {
            return out(j, 0, k.judgments.size() - 1);
        }

        boolean young(int p) {
            return k.people.get(p)[0] == 1 || k.people.get(p)[0] == 2;
        }

        int what(int p, int what, int day, int asOf) {
            List<int[]> told = new ArrayList<>();
            List<int[]> taxed = new ArrayList<>();
            for (int[] f : k.facts) {
                if (f[0] == p && f[1] == what && f[5] <= asOf && f[4] <= day) (f[2] == 1 ? taxed : told).add(f);
            }
            List<int[]> of = taxed.isEmpty() ? told : taxed;
            if (of.isEmpty()) return what == 0 ? k.rules[0] : 0;
            int latest = of.stream().mapToInt(f -> f[4]).max().getAsInt();
            return of.stream().filter(f -> f[4] == latest).reduce((a, b) -> b).get()[3];
        }

        int alone(int p, int day, int asOf) {
            int income = what(p, 0, day, asOf);
            int wealth = what(p, 2, day, asOf) / 24;
            return k.people.get(p)[0] == 3 && wealth > income ? wealth : income;
        }

        int earns(int p, int day, int asOf) {
            int other = k.people.get(p)[1];
            if (other < 0) return alone(p, day, asOf);
            return (alone(p, day, asOf) + alone(other, day, asOf)) / 2;
        }

        int past(int[] deed) {
            int n = 0;
            for (int[] j : k.judgments) {
                if (j[0] == deed[1] && j[1] < deed[2] && j[1] >= deed[2] - k.rules[1]) n++;
            }
            return n;
        }

        int worthOf(int[] deed) {
            int[] names = new int[128];
            names['g'] = deed[3];
            names['p'] = past(deed);
            names['a'] = deed[0] >= 2 ? 1 : 0;
            names['k'] = deed[0];
            names['y'] = young(deed[1]) ? 1 : 0;
            return Math.min(k.rules[3], Math.max(k.rules[2], k.law.e[0].value(names)));
        }

        int sumOf(int p, int day, int asOf) {
            int[] names = new int[128];
            names['i'] = earns(p, day, asOf);
            names['n'] = what(p, 1, day, asOf);
            names['w'] = what(p, 2, day, asOf);
            names['d'] = what(p, 3, day, asOf);
            names['s'] = k.people.get(p)[0] == 2 ? 1 : 0;
            names['y'] = young(p) ? 1 : 0;
            return Math.min(k.rules[7], Math.max(k.rules[6], k.law.e[1].value(names)));
        }

        int fine(int[] j) {
            return Math.multiplyExact(j[2], j[3]);
        }

        int unpaid(int[] j) {
            return Math.max(0, fine(j) - j[4]);
        }

        int unpaidDays(int[] j) {
            if (j[3] == 0) return 0;
            int n = unpaid(j) / j[3];
            return n * j[3] == unpaid(j) ? n : n + 1;
        }

        List<int[]> deedsOf(int judgment) {
            List<int[]> of = new ArrayList<>();
            for (int[] d : k.deeds) if (d[4] == judgment) of.add(d);
            return of;
        }

        int share(int judgment, boolean flat) {
            int[] j = k.judgments.get(judgment);
            long coins = 0;
            if (flat) for (int[] d : deedsOf(judgment)) coins += k.flats[d[0]];
            else coins = fine(j);
            return (int) Math.min(9999999, coins * 1000 / Math.max(1, earns(j[0], j[1], j[1])));
        }

        int fact(int p, int what, int source, int v, int from) {
            if (noPerson(p) || out(what, 0, 3) || out(source, 0, 1) || out(from, 0, 3000)) return BAD;
            if (source == 1 && what % 2 == 1 || out(v, 0, what == 1 ? 9 : 99999)) return BAD;
            if (k.facts.size() == 96) return FULL;
            k.facts.add(new int[] {p, what, source, v, from, k.today});
            return k.facts.size();
        }

        int law() {
            String text = tape;
            tape = "";
            try {
                k.law = new Parser(text);
                return k.law.parts;
            } catch (Fault f) {
                return -100 - f.place;
            }
        }

        int judge(int p) {
            if (noPerson(p)) return BAD;
            List<Integer> worths = new ArrayList<>();
            List<int[]> open = new ArrayList<>();
            for (int[] d : k.deeds) if (d[1] == p && d[4] < 0) open.add(d);
            if (k.law == null || open.isEmpty()) return NO;
            if (k.judgments.size() == 16) return FULL;
            for (int[] d : open) worths.add(worthOf(d));
            worths.sort((a, b) -> b - a);
            int days = worths.get(0);
            for (int i = 1; i < worths.size(); i++) days += worths.get(i) * k.rules[4] / 100;
            days = Math.min(days, k.rules[5]);
            int[] who = k.people.get(p);
            while (days > 0 && who[2] > 0) {
                days--;
                who[2]--;
            }
            int number = k.judgments.size();
            k.judgments.add(new int[] {p, k.today, days, sumOf(p, k.today, k.today), 0, 0, k.today, 0, 0, 0});
            for (int[] d : open) d[4] = number;
            return number;
        }

        int about(int judgment, int what) {
            if (noJudgment(judgment) || out(what, 0, 13)) return BAD;
            int[] j = k.judgments.get(judgment);
            int[] all = {j[0], j[1], j[2], j[3], fine(j), j[4], unpaid(j), unpaidDays(j), j[5], j[7],
                deedsOf(judgment).size(), share(judgment, false), share(judgment, true), j[1] + k.rules[12]};
            return all[what];
        }

        int appeal(int judgment, int part, int v) {
            if (noJudgment(judgment) || out(part, 0, 1) || out(v, 0, k.rules[part == 0 ? 3 : 7])) return BAD;
            int[] j = k.judgments.get(judgment);
            if (k.today > j[1] + k.rules[8] || j[8 + part] == 1 || j[5] == 3) return NO;
            int was = j[2 + part];
            j[2 + part] = v;
            j[8 + part] = 1;
            return was;
        }

        int reopen(int judgment) {
            if (noJudgment(judgment)) return BAD;
            int[] j = k.judgments.get(judgment);
            if (k.today > j[1] + k.rules[9] || j[5] == 3) return NO;
            j[3] = sumOf(j[0], j[1], k.today);
            return j[3];
        }

        int pay(int judgment, int coins) {
            if (noJudgment(judgment) || out(coins, 1, 9999999)) return BAD;
            int[] j = k.judgments.get(judgment);
            if (j[5] == 3) return NO;
            int left = Math.max(0, coins - unpaid(j));
            j[4] += coins - left;
            return left;
        }

        int back(int judgment) {
            if (noJudgment(judgment)) return BAD;
            int[] j = k.judgments.get(judgment);
            long over = j[4] - fine(j);
            if (over <= 0) return NO;
            j[4] = fine(j);
            return Math.toIntExact(over + over * k.rules[10] * (k.today - j[1]) / 36500);
        }

        int step(int judgment) {
            if (noJudgment(judgment)) return BAD;
            int[] j = k.judgments.get(judgment);
            if (j[5] == 3 || unpaid(j) == 0 || k.today < j[6] + k.rules[11]) return NO;
            j[5]++;
            j[6] = k.today;
            if (j[5] == 3) {
                int[] names = new int[128];
                names['u'] = unpaidDays(j);
                names['y'] = young(j[0]) ? 1 : 0;
                j[7] = Math.min(9999, Math.max(0, k.law.e[2].value(names)));
            }
            return j[5];
        }

        int work(int judgment, int hours) {
            if (noJudgment(judgment) || out(hours, 1, 9999)) return BAD;
            int[] j = k.judgments.get(judgment);
            if (j[5] != 3 || j[7] < hours) return NO;
            j[7] -= hours;
            return j[7];
        }

        int roomOf(int p, int m) {
            int day = k.today + 30 * m;
            int left = earns(p, day, k.today) - k.rules[13] * (1 + what(p, 1, day, k.today)) - what(p, 3, day, k.today);
            return left <= 0 ? 0 : left * k.rules[14] / 100;
        }

        /** What each month pays with a level, or null if it does not hold. */
        int[] paysWith(int p, int[] rooms, int level) {
            List<int[]> owed = new ArrayList<>(); // due, number, coins
            for (int i = 0; i < k.judgments.size(); i++) {
                int[] j = k.judgments.get(i);
                if (j[0] == p && unpaid(j) > 0 && j[5] < 3) owed.add(new int[] {j[1] + k.rules[12], i, unpaid(j)});
            }
            owed.sort((a, b) -> a[0] != b[0] ? a[0] - b[0] : a[1] - b[1]);
            int[] pays = new int[24];
            for (int m = 0; m < 24; m++) {
                int left = Math.min(rooms[m], level);
                for (int[] o : owed) {
                    int now = Math.min(left, o[2]);
                    if (now > 0 && now == o[2] && k.today + 30 * m > o[0]) return null;
                    o[2] -= now;
                    left -= now;
                    pays[m] += now;
                }
            }
            for (int[] o : owed) if (o[2] > 0) return null;
            return pays;
        }

        /** THE LEVEL in place 24, behind what each month pays; null if there is none. */
        int[] plan(int p) {
            int[] rooms = new int[24];
            for (int m = 0; m < 24; m++) rooms[m] = roomOf(p, m);
            int most = Arrays.stream(rooms).max().getAsInt();
            if (paysWith(p, rooms, most) == null) return null;
            int step = most > 3000 ? 97 : 1;
            int level = 0;
            while (paysWith(p, rooms, Math.min(level, most)) == null) level += step;
            level = Math.max(0, level - step);
            while (paysWith(p, rooms, level) == null) level++;
            int[] all = Arrays.copyOf(paysWith(p, rooms, level), 25);
            all[24] = level;
            return all;
        }

        int check(int p) {
            List<Integer> told = waiting;
            waiting = new ArrayList<>();
            if (noPerson(p)) return BAD;
            int[] pays = plan(p);
            if (pays == null) return NO;
            List<Integer> rows = new ArrayList<>();
            for (int m = 0; m < 24; m++) rows.add(pays[m]);
            while (!rows.isEmpty() && rows.get(rows.size() - 1) == 0) rows.remove(rows.size() - 1);
            if (rows.equals(told)) return 0;
            int same = 0;
            while (same < rows.size() && same < told.size() && rows.get(same).equals(told.get(same))) same++;
            return 1 + same;
        }

        boolean alikeAre(int one, int other) {
            int[][] marks = new int[2][5];
            for (int side = 0; side < 2; side++) {
                for (int[] d : deedsOf(side == 0 ? one : other)) {
                    marks[side][d[0]]++;
                    marks[side][4] += d[3];
                }
            }
            boolean kinds = Arrays.equals(Arrays.copyOf(marks[0], 4), Arrays.copyOf(marks[1], 4));
            boolean young = young(k.judgments.get(one)[0]) == young(k.judgments.get(other)[0]);
            return kinds && young && Math.abs(marks[0][4] - marks[1][4]) <= 5;
        }

        int unlike() {
            int best = 0;
            int found = NONE;
            for (int a = 0; a < k.judgments.size(); a++) {
                for (int b = a + 1; b < k.judgments.size(); b++) {
                    int apart = Math.abs(k.judgments.get(a)[2] - k.judgments.get(b)[2]);
                    if (!alikeAre(a, b) || apart <= best) continue;
                    best = apart;
                    found = 100 * a + b;
                }
            }
            return found;
        }

        int spread(int what) {
            if (out(what, 0, 1)) return BAD;
            if (k.judgments.isEmpty()) return 0;
            int[] shares = new int[k.judgments.size()];
            for (int i = 0; i < shares.length; i++) shares[i] = share(i, what == 1);
            Arrays.sort(shares);
            return shares[shares.length - 1] - shares[0];
        }

        int slip(int p, int s) {
            if (noPerson(p) || out(s, 0, 1)) return BAD;
            if (sheets[s] == null) return NOTHING;
            for (int i = 0; i < sheets[s].length; i++) {
                long all = 0;
                for (int j = 0; j < i; j += 2) all += sheets[s][j];
                if (i % 2 == 0 ? sheets[s][i] < 0 : sheets[s][i] != all) return i;
            }
            if (sheets[s].length < 24) return NONE;
            return Math.abs(sheets[s][23] - 12L * what(p, 0, k.today, k.today)) > k.rules[15] ? 23 : NONE;
        }

        int copy(int from, int place, int to, int at, int many) {
            if (out(from, 0, 1) || out(to, 0, 1)) return BAD;
            if (sheets[from] == null || sheets[to] == null) return NOTHING;
            if (place < 0 || at < 0 || many < 0) return INDEX;
            if ((long) place + many > sheets[from].length || (long) at + many > sheets[to].length) return INDEX;
            int[] was = sheets[from].clone();
            for (int i = 0; i < many; i++) sheets[to][at + i] = was[place + i];
            return many;
        }

        int count(int what) {
            int couples = 0;
            int custody = 0;
            int open = 0;
            for (int i = 0; i < k.people.size(); i++) {
                if (k.people.get(i)[1] > i) couples++;
                custody += k.people.get(i)[2];
            }
            for (int[] d : k.deeds) if (d[4] < 0) open++;
            int[] all = {k.people.size(), k.facts.size(), k.deeds.size(), k.judgments.size(), couples, open,
                waiting.size(), tape.length(), k.today, custody};
            return out(what, 0, 9) ? BAD : all[what];
        }

        int feed(int... v) {
            if (tape.length() > 108) return FULL;
            StringBuilder more = new StringBuilder(tape);
            for (int one : v) for (int i = 24; i >= 0; i -= 8) more.append((char) (one >>> i & 255));
            tape = more.toString();
            return tape.length();
        }

        int peopleCall(String name, int[] v) {
            switch (name) {
                case "person":
                    if (out(v[0], 0, 3)) return BAD;
                    if (k.people.size() == 12) return FULL;
                    k.people.add(new int[] {v[0], -1, 0});
                    return k.people.size() - 1;
                case "is":
                    if (noPerson(v[0]) || out(v[1], 0, 3)) return BAD;
                    return v[1] == 0 || k.people.get(v[0])[0] == v[1] || v[1] == 1 && young(v[0]) ? 1 : 0;
                case "couple":
                    if (noPerson(v[0]) || noPerson(v[1]) || v[0] == v[1]) return BAD;
                    if (k.people.get(v[0])[1] >= 0 || k.people.get(v[1])[1] >= 0) return NO;
                    k.people.get(v[0])[1] = v[1];
                    k.people.get(v[1])[1] = v[0];
                    return 1;
                case "part":
                    if (noPerson(v[0])) return BAD;
                    int other = k.people.get(v[0])[1];
                    if (other < 0) return NO;
                    k.people.get(v[0])[1] = -1;
                    k.people.get(other)[1] = -1;
                    return other;
                case "fact": return fact(v[0], v[1], v[2], v[3], v[4]);
                case "known":
                    if (noPerson(v[0]) || out(v[1], 0, 4) || out(v[2], 0, 3000) || out(v[3], 0, k.today)) return BAD;
                    return v[1] == 4 ? earns(v[0], v[2], v[3]) : what(v[0], v[1], v[2], v[3]);
                case "custody":
                    if (noPerson(v[0]) || out(v[1], 1, 999)) return BAD;
                    if (k.people.get(v[0])[2] + v[1] > 9999) return FULL;
                    return k.people.get(v[0])[2] += v[1];
                case "days":
                    if (out(v[0], 1, 100) || k.today + v[0] > 3000) return BAD;
                    return k.today += v[0];
                default:
                    if (out(v[0], 0, 15) || out(v[1], 0, MOST[v[0]])) return BAD;
                    int was = k.rules[v[0]];
                    k.rules[v[0]] = v[1];
                    return was;
            }
        }

        int deedCall(String name, int[] v) {
            switch (name) {
                case "deed":
                    if (out(v[0], 0, 3) || noPerson(v[1]) || out(v[2], 0, k.today) || out(v[3], 1, 100)) return BAD;
                    if (k.deeds.size() == 30) return FULL;
                    k.deeds.add(new int[] {v[0], v[1], v[2], v[3], -1});
                    return k.deeds.size() - 1;
                case "isOf":
                    if (noDeed(v[0]) || out(v[1], 0, 3)) return BAD;
                    int kind = k.deeds.get(v[0])[0];
                    return v[1] == 0 || kind == v[1] || v[1] == 2 && kind == 3 ? 1 : 0;
                case "told":
                    if (noDeed(v[0]) || out(v[1], 0, 5)) return BAD;
                    int[] d = k.deeds.get(v[0]);
                    return new int[] {d[0], d[1], d[2], d[3], past(d), d[4] < 0 ? NONE : d[4]}[v[1]];
                case "flat":
                    if (out(v[0], 0, 3) || out(v[1], 0, 9999)) return BAD;
                    int was = k.flats[v[0]];
                    k.flats[v[0]] = v[1];
                    return was;
                case "feed": return feed(v[0], v[1], v[2]);
                case "trim":
                    if (out(v[0], 0, tape.length())) return BAD;
                    tape = tape.substring(0, v[0]);
                    return v[0];
                case "law": return law();
                case "worth":
                    if (noDeed(v[0])) return BAD;
                    return k.law == null ? NO : worthOf(k.deeds.get(v[0]));
                default:
                    if (noPerson(v[0]) || out(v[1], 0, 3000) || out(v[2], 0, k.today)) return BAD;
                    return k.law == null ? NO : sumOf(v[0], v[1], v[2]);
            }
        }

        int judgmentCall(String name, int[] v) {
            switch (name) {
                case "judge": return judge(v[0]);
                case "about": return about(v[0], v[1]);
                case "appeal": return appeal(v[0], v[1], v[2]);
                case "reopen": return reopen(v[0]);
                case "pay": return pay(v[0], v[1]);
                case "back": return back(v[0]);
                case "step": return step(v[0]);
                case "work": return work(v[0], v[1]);
                case "level":
                    if (noPerson(v[0])) return BAD;
                    return plan(v[0]) == null ? NO : plan(v[0])[24];
                case "month":
                    if (noPerson(v[0]) || out(v[1], 0, 23)) return BAD;
                    return plan(v[0]) == null ? NO : plan(v[0])[v[1]];
                case "room": return noPerson(v[0]) || out(v[1], 0, 23) ? BAD : roomOf(v[0], v[1]);
                case "tell":
                    if (waiting.size() == 30) return FULL;
                    waiting.add(v[0]);
                    return waiting.size();
                default: return check(v[0]);
            }
        }

        int lastCall(String name, int[] v) {
            switch (name) {
                case "alike":
                    if (noJudgment(v[0]) || noJudgment(v[1]) || v[0] == v[1]) return BAD;
                    return alikeAre(v[0], v[1]) ? 1 : 0;
                case "unlike": return unlike();
                case "spread": return spread(v[0]);
                case "slip": return slip(v[0], v[1]);
                case "keep":
                    image = k.copied();
                    return k.today;
                case "again":
                    if (image == null) return NO;
                    k = image.copied();
                    return k.today;
                case "sheet":
                    if (out(v[0], 0, 1) || v[1] > 24) return BAD;
                    if (v[1] < 0) return SIZE;
                    sheets[v[0]] = new int[v[1]];
                    return v[1];
                case "mark":
                    if (out(v[0], 0, 1)) return BAD;
                    if (sheets[v[0]] == null) return NOTHING;
                    if (out(v[1], 0, sheets[v[0]].length - 1)) return INDEX;
                    int was = sheets[v[0]][v[1]];
                    sheets[v[0]][v[1]] = v[2];
                    return was;
                case "copy": return copy(v[0], v[1], v[2], v[3], v[4]);
                default: return count(v[0]);
            }
        }

        int call(int which, int[] v) {
            if (which < 9) return peopleCall(NAMES[which], v);
            if (which < 18) return deedCall(NAMES[which], v);
            return which < 31 ? judgmentCall(NAMES[which], v) : lastCall(NAMES[which], v);
        }
    }

    private static int call(DayFines x, int which, int[] v) {
        switch (NAMES[which]) {
            case "person": return x.person(v[0]);
            case "is": return x.is(v[0], v[1]);
            case "couple": return x.couple(v[0], v[1]);
            case "part": return x.part(v[0]);
            case "fact": return x.fact(v[0], v[1], v[2], v[3], v[4]);
            case "known": return x.known(v[0], v[1], v[2], v[3]);
            case "custody": return x.custody(v[0], v[1]);
            case "days": return x.days(v[0]);
            case "rule": return x.rule(v[0], v[1]);
            case "deed": return x.deed(v[0], v[1], v[2], v[3]);
            case "isOf": return x.isOf(v[0], v[1]);
            case "told": return x.told(v[0], v[1]);
            case "flat": return x.flat(v[0], v[1]);
            case "feed": return x.feed(v[0], v[1], v[2]);
            case "trim": return x.trim(v[0]);
            case "law": return x.law();
            case "worth": return x.worth(v[0]);
            case "sum": return x.sum(v[0], v[1], v[2]);
            case "judge": return x.judge(v[0]);
            case "about": return x.about(v[0], v[1]);
            case "appeal": return x.appeal(v[0], v[1], v[2]);
            default: return callLast(x, which, v);
        }
    }

    private static int callLast(DayFines x, int which, int[] v) {
        switch (NAMES[which]) {
            case "reopen": return x.reopen(v[0]);
            case "pay": return x.pay(v[0], v[1]);
            case "back": return x.back(v[0]);
            case "step": return x.step(v[0]);
            case "work": return x.work(v[0], v[1]);
            case "level": return x.level(v[0]);
            case "month": return x.month(v[0], v[1]);
            case "room": return x.room(v[0], v[1]);
            case "tell": return x.tell(v[0]);
            case "check": return x.check(v[0]);
            case "alike": return x.alike(v[0], v[1]);
            case "unlike": return x.unlike();
            case "spread": return x.spread(v[0]);
            case "slip": return x.slip(v[0], v[1]);
            case "keep": return x.keep();
            case "again": return x.again();
            case "sheet": return x.sheet(v[0], v[1]);
            case "mark": return x.mark(v[0], v[1], v[2]);
            case "copy": return x.copy(v[0], v[1], v[2], v[3], v[4]);
            default: return x.count(v[0]);
        }
    }

    /** One run: an object, its model, and a source of calls that mostly have an effect. */
    private static final class Run {
        final Random random;
        final DayFines x = new DayFines();
        final Model model = new Model();
        final StringBuilder log = new StringBuilder();
        final boolean rich;
        final boolean wild;
        int calls = 0;
        boolean wrong = false;
        static final int[] ANSWERS = new int[NAMES.length];
        static final int[] REFUSALS = new int[NAMES.length];

        Run(long seed) {
            random = new Random(seed);
            rich = seed % 8 == 0;
            wild = seed % 16 == 5;
        }

        int any(int least, int most) {
            int[] extremes = {Integer.MIN_VALUE, Integer.MIN_VALUE + 1, Integer.MAX_VALUE, Integer.MAX_VALUE - 1, -2};
            if (wild && random.nextInt(8) == 0) return extremes[random.nextInt(5)];
            int dice = random.nextInt(100);
            if (dice < 2) return least - 1;
            if (dice < 4) return most + 1;
            if (dice < 5) return random.nextInt();
            if (dice < 10) return least;
            if (dice < 15) return most;
            return most < least ? least : least + random.nextInt(most - least + 1);
        }

        int people() {
            return any(0, model.k.people.size() - 1);
        }

        int judgments() {
            return any(0, model.k.judgments.size() - 1);
        }

        int deeds() {
            return any(0, model.k.deeds.size() - 1);
        }

        int someDay() {
            return random.nextInt(4) == 0 ? any(0, 3000) : any(0, Math.min(3000, model.k.today + 200));
        }

        void make(String name, int... v) {
            int which = Arrays.asList(NAMES).indexOf(name);
            int want = model.call(which, v);
            int got = call(x, which, v);
            calls++;
            ANSWERS[which]++;
            if (want == BAD || want == NO || want == FULL) REFUSALS[which]++;
            log.append(name).append(Arrays.toString(v)).append(" -> ").append(want).append('\n');
            if (got == want) return;
            wrong = true;
            System.out.print(log);
            System.out.println("but DayFines answered " + got);
        }

        void makeLaw() {
            String text = random.nextInt(3) == 0 ? brokenLaw() : wholeLaw();
            if (text.length() > 120) text = text.substring(0, random.nextInt(121));
            make("trim", 0);
            for (int i = 0; i < text.length(); i += 12) {
                StringBuilder part = new StringBuilder(text.substring(i, Math.min(i + 12, text.length())));
                while (part.length() < 12) part.append(' ');
                make("feed", four(part, 0), four(part, 4), four(part, 8));
            }
            make("trim", text.length());
            make("law");
        }

        static int four(CharSequence text, int at) {
            int v = 0;
            for (int i = 0; i < 4; i++) v = v << 8 | text.charAt(at + i) & 255;
            return v;
        }

        String wholeLaw() {
            if (random.nextInt(3) == 0) return "days g/2+p*20+a*5 sum i/30-n*4+w/999-d/30 hours u*3-y";
            return "days " + e(0, 3) + gap() + " sum " + e(1, 3) + " hours " + e(2, 2) + gap();
        }

        String brokenLaw() {
            StringBuilder text = new StringBuilder(wholeLaw());
            String bytes = "gpakyinwdsu0123456789+-*/<=>|&!() {A";
            for (int i = 1 + random.nextInt(2); i > 0; i--) {
                int at = random.nextInt(text.length());
                char c = random.nextInt(20) == 0 ? (char) random.nextInt(256) : bytes.charAt(random.nextInt(bytes.length()));
                switch (random.nextInt(4)) {
                    case 0: text.setCharAt(at, c); break;
                    case 1: text.insert(at, c); break;
                    case 2: if (text.length() > 1) text.deleteCharAt(at); break;
                    default: text.insert(at, String.valueOf(c).repeat(1 + random.nextInt(10))); break;
                }
            }
            return text.toString();
        }

        String gap() {
            return " ".repeat(Math.max(0, random.nextInt(6) - 3));
        }

        String e(int section, int depth) {
            if (depth == 0 || random.nextInt(3) == 0) {
                if (random.nextInt(3) == 0) return String.valueOf(random.nextInt(random.nextBoolean() ? 100 : 100000));
                return String.valueOf(OWN_NAMES[section].charAt(random.nextInt(OWN_NAMES[section].length())));
            }
            String one = e(section, depth - 1);
            switch (random.nextInt(4)) {
                case 0: return "(" + gap() + one + ")";
                case 1: return "!".repeat(1 + random.nextInt(3)) + one;
                default: return one + gap() + "+-*/+-*/<=>|&".charAt(random.nextInt(13)) + gap() + e(section, depth - 1);
            }
        }

        void tellRows() {
            int p = people();
            int[] pays = model.noPerson(p) ? null : model.plan(p);
            int rows = random.nextInt(3);
            if (pays != null) for (int m = 0; m < 24; m++) if (pays[m] > 0) rows = m + 1;
            int slipAt = random.nextInt(60);
            if (random.nextInt(4) == 0) rows = Math.max(0, rows + random.nextInt(3) - 1);
            for (int m = 0; m < rows; m++) make("tell", (pays == null || m > 23 ? 0 : pays[m]) + (m == slipAt ? 1 : 0));
            make("check", p);
        }

        void writeSlip() {
            int s = random.nextInt(2);
            int size = random.nextBoolean() ? 24 : random.nextInt(25);
            make("sheet", s, size);
            int income = model.k.people.isEmpty() ? 1000 : model.what(0, 0, model.k.today, model.k.today);
            int all = 0;
            int slipAt = random.nextInt(60);
            for (int i = 0; i < size; i++) {
                int pay = income + (random.nextInt(9) == 0 ? 1 : 0);
                if (i % 2 == 0) all += pay;
                make("mark", s, i, (i % 2 == 0 ? pay : all) + (i == slipAt ? -1 - random.nextInt(3) : 0));
            }
            make("slip", random.nextInt(5) == 0 ? people() : 0, s);
        }

        void aCall() {
            int dice = random.nextInt(300);
            if (dice < 4) {
                makeLaw();
                return;
            }
            if (dice < 9) {
                tellRows();
                return;
            }
            if (dice < 10) {
                writeSlip();
                return;
            }
            int total = Arrays.stream(OFTEN).sum();
            int left = random.nextInt(total);
            int which = 0;
            while (left >= OFTEN[which]) left -= OFTEN[which++];
            make(NAMES[which], which < 18 ? earlyArguments(NAMES[which]) : lateArguments(NAMES[which]));
        }

        int[] earlyArguments(String name) {
            int today = model.k.today;
            switch (name) {
                case "person": return new int[] {any(0, 3)};
                case "is": return new int[] {people(), any(0, 3)};
                case "couple": return new int[] {people(), people()};
                case "part": return new int[] {people()};
                case "fact":
                    int what = any(0, 3);
                    int most = what == 1 ? 9 : what == 2 ? 99999 : what == 3 ? 900 : rich ? 99999 : 3000;
                    return new int[] {people(), what, any(0, 1), any(0, most), someDay()};
                case "known": return new int[] {people(), any(0, 4), someDay(), any(0, today)};
                case "custody": return new int[] {people(), random.nextInt(3) == 0 ? any(1, 999) : any(1, 30)};
                case "days": return new int[] {random.nextInt(3) == 0 ? any(1, 100) : any(1, 30)};
                case "rule": return ruleArguments();
                case "deed": return new int[] {any(0, 3), people(), any(0, today), any(1, 100)};
                case "isOf": return new int[] {deeds(), any(0, 3)};
                case "told": return new int[] {deeds(), any(0, 5)};
                case "flat": return new int[] {any(0, 3), any(0, 9999)};
                case "trim": return new int[] {any(0, 120)};
                case "worth": return new int[] {deeds()};
                case "sum": return new int[] {people(), someDay(), any(0, today)};
                default: return new int[0];
            }
        }

        int[] ruleArguments() {
            int which = any(0, 15);
            if (which < 0 || which > 15) return new int[] {which, 0};
            int[] usual = {3000, 600, 30, 200, 100, 400, 50, 2000, 200, 800, 20, 40, 700, 500, 100, 50};
            if (random.nextInt(12) == 0) return new int[] {which, any(0, Model.MOST[which])};
            return new int[] {which, which == 14 ? 20 + random.nextInt(81) : random.nextInt(usual[which] + 1)};
        }

        int[] lateArguments(String name) {
            int j = judgments();
            switch (name) {
                case "judge": case "level": case "check": return new int[] {people()};
                case "about": return new int[] {j, any(0, 13)};
                case "appeal":
                    int part = any(0, 1);
                    return new int[] {j, part, any(0, model.k.rules[part == 0 ? 3 : 7])};
                case "reopen": case "back": case "step": return new int[] {j};
                case "pay":
                    int unpaid = model.noJudgment(j) ? 5 : model.unpaid(model.k.judgments.get(j));
                    return new int[] {j, random.nextInt(3) == 0 ? any(1, 9999999) : any(1, Math.max(1, unpaid))};
                case "work":
                    int hours = model.noJudgment(j) ? 5 : model.k.judgments.get(j)[7];
                    return new int[] {j, any(1, Math.max(1, hours))};
                case "month": case "room": return new int[] {people(), any(0, 23)};
                case "tell": case "unlike": case "keep": case "again": return new int[] {random.nextInt()};
                case "alike": return new int[] {j, judgments()};
                case "spread": return new int[] {any(0, 1)};
                case "slip": return new int[] {people(), any(0, 1)};
                case "sheet": return new int[] {any(0, 1), any(0, 24)};
                case "mark": return new int[] {any(0, 1), any(0, 23), any(-10, 1000)};
                case "copy": return new int[] {any(0, 1), any(0, 12), any(0, 1), any(0, 12), any(0, 12)};
                default: return new int[] {any(0, 9)};
            }
        }

        boolean isRight() {
            int first = 1 + random.nextInt(5);
            for (int i = 0; i < first; i++) make("person", random.nextInt(4));
            if (random.nextInt(5) > 0) makeLaw();
            while (calls < CALLS && !wrong) aCall();
            return !wrong;
        }
    }

    public static void main(String[] args) {
        for (long seed = 0; seed < RUNS; seed++) {
            if (new Run(seed).isRight()) continue;
            System.out.println("the run of seed " + seed + " is wrong");
            System.exit(1);
        }
        if (args.length > 0) {
            for (int i = 0; i < NAMES.length; i++) {
                System.out.println(NAMES[i] + ": " + Run.ANSWERS[i] + " calls, " + Run.REFUSALS[i] + " refused");
            }
        }
        System.out.println(RUNS + " random runs are as the model");
    }
}

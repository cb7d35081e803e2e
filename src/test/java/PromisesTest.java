/** For each promise: ordinary inputs, the edges that the document names, and wrong inputs. */
public final class PromisesTest {
    private static final int BAD = DayFines.BAD, NO = DayFines.NO, FULL = DayFines.FULL, NONE = DayFines.NONE;
    private static final int NOTHING = DayFines.NOTHING, INDEX = DayFines.INDEX, SIZE = DayFines.SIZE;
    private static final int LOW = Integer.MIN_VALUE, HIGH = Integer.MAX_VALUE;

    private static int wrong = 0;
    private static String promise = "";

    private static void due(String call, int got, int want) {
        if (got == want) return;
        wrong++;
        System.out.println(promise + ": " + call + " answered " + got + ", due is " + want);
    }

    private static void feedText(DayFines x, String text) {
        StringBuilder all = new StringBuilder(text);
        while (all.length() % 12 != 0) all.append(' ');
        for (int i = 0; i < all.length(); i += 12) {
            x.feed(four(all, i), four(all, i + 4), four(all, i + 8));
        }
        x.trim(text.length());
    }

    private static int four(CharSequence text, int at) {
        int v = 0;
        for (int i = 0; i < 4; i++) v = v << 8 | text.charAt(at + i) & 255;
        return v;
    }

    private static int law(DayFines x, String text) {
        feedText(x, text);
        return x.law();
    }

    private static void go(DayFines x, int n) {
        int left = n;
        while (left > 0) {
            x.days(Math.min(left, 100));
            left -= Math.min(left, 100);
        }
    }

    private static DayFines court(String text, int... kinds) {
        DayFines x = new DayFines();
        for (int kind : kinds) x.person(kind);
        law(x, text);
        return x;
    }

    /** A court with one person, whose judgment 0 is of so many days of so many coins. */
    private static DayFines judged(int days, int sum) {
        DayFines x = court("days " + days + " sum " + sum + " hours u*4", 0);
        x.rule(3, 999);
        x.rule(5, 9999);
        x.rule(7, 9999);
        x.deed(0, 0, 0, 1);
        x.judge(0);
        return x;
    }

    private static void newObject() {
        DayFines x = new DayFines();
        for (int what = 0; what <= 9; what++) due("count(" + what + ")", x.count(what), 0);
        due("sum without people", x.sum(0, 0, 0), BAD);
        due("again", x.again(), NO);
        due("unlike", x.unlike(), NONE);
        due("spread", x.spread(0), 0);
        due("mark", x.mark(0, 0, 1), NOTHING);
        x.person(0);
        due("no law", x.sum(0, 0, 0), NO);
        int[] first = {1000, 365, 1, 120, 50, 240, 1, 1000, 30, 400, 4, 30, 365, 300, 50, 0};
        for (int i = 0; i < 16; i++) due("rule " + i + " at first", x.rule(i, 0), first[i]);
    }

    private static void person() {
        DayFines x = new DayFines();
        due("person(-1)", x.person(-1), BAD);
        due("person(4)", x.person(4), BAD);
        for (int i = 0; i < 12; i++) due("person " + i, x.person(i % 4), i);
        due("a thirteenth", x.person(0), FULL);
        due("a thirteenth of no kind", x.person(4), BAD);
        due("how many", x.count(0), 12);
    }

    private static void is() {
        DayFines x = court("", 0, 1, 2, 3);
        int[][] want = {{1, 0, 0, 0}, {1, 1, 0, 0}, {1, 1, 1, 0}, {1, 0, 0, 1}};
        for (int p = 0; p < 4; p++) {
            for (int k = 0; k < 4; k++) due("is(" + p + ", " + k + ")", x.is(p, k), want[p][k]);
        }
        due("no such person", x.is(4, 0), BAD);
        due("person below 0", x.is(-1, 0), BAD);
        due("kind -1", x.is(0, -1), BAD);
        due("kind 4", x.is(0, 4), BAD);
    }

    private static void couple() {
        DayFines x = court("", 0, 1, 3, 0);
        due("with oneself", x.couple(0, 0), BAD);
        due("no such person", x.couple(4, 0), BAD);
        due("no such other", x.couple(0, 4), BAD);
        due("other below 0", x.couple(0, -1), BAD);
        due("couple", x.couple(0, 1), 1);
        due("couples", x.count(4), 1);
        due("the first is in one", x.couple(0, 2), NO);
        due("the other is in one", x.couple(2, 1), NO);
        due("in one, with oneself", x.couple(1, 1), BAD);
        due("another", x.couple(3, 2), 1);
        due("couples", x.count(4), 2);
    }

    private static void part() {
        DayFines x = court("", 0, 0, 0);
        due("in none", x.part(0), NO);
        due("no such person", x.part(3), BAD);
        due("below 0", x.part(-1), BAD);
        x.couple(2, 0);
        due("part", x.part(2), 0);
        due("the other one", x.part(0), NO);
        due("couples", x.count(4), 0);
        due("anew", x.couple(0, 1), 1);
        due("part of the second", x.part(1), 0);
    }

    private static void fact() {
        DayFines x = court("", 0);
        due("person", x.fact(1, 0, 0, 1, 0), BAD);
        due("person below 0", x.fact(-1, 0, 0, 1, 0), BAD);
        due("what -1", x.fact(0, -1, 0, 1, 0), BAD);
        due("what 4", x.fact(0, 4, 0, 1, 0), BAD);
        due("source -1", x.fact(0, 0, -1, 1, 0), BAD);
        due("source 2", x.fact(0, 0, 2, 1, 0), BAD);
        due("needy by tax", x.fact(0, 1, 1, 1, 0), BAD);
        due("debt by tax", x.fact(0, 3, 1, 1, 0), BAD);
        due("value -1", x.fact(0, 0, 0, -1, 0), BAD);
        due("value 100000", x.fact(0, 0, 0, 100000, 0), BAD);
        due("needy 10", x.fact(0, 1, 0, 10, 0), BAD);
        due("from -1", x.fact(0, 0, 0, 1, -1), BAD);
        due("from 3001", x.fact(0, 0, 0, 1, 3001), BAD);
        due("none came", x.count(1), 0);
        due("income", x.fact(0, 0, 0, 99999, 3000), 1);
        due("needy", x.fact(0, 1, 0, 9, 0), 2);
        due("wealth by tax", x.fact(0, 2, 1, 0, 0), 3);
        due("debt", x.fact(0, 3, 0, 99999, 0), 4);
        due("income by tax", x.fact(0, 0, 1, 0, 0), 5);
        for (int i = 6; i <= 96; i++) due("fact " + i, x.fact(0, 2, 0, i, 0), i);
        due("a 97th", x.fact(0, 2, 0, 1, 0), FULL);
        due("a bad 97th", x.fact(0, 1, 1, 1, 0), BAD);
    }

    private static void known() {
        DayFines x = court("", 0, 3, 0);
        due("guess", x.known(0, 0, 5, 0), 1000);
        x.rule(0, 700);
        due("guess by the rule", x.known(0, 0, 5, 0), 700);
        for (int what = 1; what <= 3; what++) due("none of " + what, x.known(0, what, 5, 0), 0);
        x.fact(0, 0, 0, 100, 10);
        x.fact(0, 0, 0, 200, 5);
        due("ahead of all", x.known(0, 0, 4, 0), 700);
        due("from 5", x.known(0, 0, 5, 0), 200);
        due("from 9", x.known(0, 0, 9, 0), 200);
        due("from 10", x.known(0, 0, 10, 0), 100);
        x.fact(0, 0, 0, 300, 10);
        due("the one that came last", x.known(0, 0, 10, 0), 300);
        go(x, 20);
        x.fact(0, 0, 1, 50, 7);
        due("tax alone", x.known(0, 0, 3000, 20), 50);
        due("tax, not yet known", x.known(0, 0, 3000, 19), 300);
        due("tax, not yet from", x.known(0, 0, 6, 20), 200);
        x.fact(0, 0, 0, 999, 8);
        due("told behind tax", x.known(0, 0, 8, 20), 50);
        due("of another person", x.known(2, 0, 8, 20), 700);
        due("other what", x.known(0, 2, 8, 20), 0);
        x.fact(1, 2, 0, 24 * 701 - 1, 0);
        due("owner, wealth is no more", x.known(1, 4, 0, 20), 700);
        x.fact(1, 2, 0, 24 * 701, 0);
        due("owner, wealth is more", x.known(1, 4, 0, 20), 701);
        x.fact(2, 2, 0, 99999, 0);
        due("wealth of no owner", x.known(2, 4, 0, 20), 700);
        x.couple(0, 1);
        due("half, cut", x.known(0, 4, 8, 20), (50 + 701) / 2);
        due("half of the other one", x.known(1, 4, 8, 20), (50 + 701) / 2);
        due("income stays", x.known(1, 0, 8, 20), 700);
        due("person", x.known(3, 0, 0, 0), BAD);
        due("what -1", x.known(0, -1, 0, 0), BAD);
        due("what 5", x.known(0, 5, 0, 0), BAD);
        due("day -1", x.known(0, 0, -1, 0), BAD);
        due("day 3001", x.known(0, 0, 3001, 0), BAD);
        due("asOf -1", x.known(0, 0, 0, -1), BAD);
        due("asOf behind today", x.known(0, 0, 0, 21), BAD);
    }

    private static void custody() {
        DayFines x = court("", 0, 0);
        due("person", x.custody(2, 1), BAD);
        due("0 days", x.custody(0, 0), BAD);
        due("1000 days", x.custody(0, 1000), BAD);
        due("of the other", x.custody(1, 5), 5);
        for (int i = 1; i <= 10; i++) due("custody " + i, x.custody(0, 999), 999 * i);
        due("above 9999", x.custody(0, 10), FULL);
        due("up to 9999", x.custody(0, 9), 9999);
        due("one more", x.custody(0, 1), FULL);
        due("of all", x.count(9), 10004);
    }

    private static void days() {
        DayFines x = new DayFines();
        due("0", x.days(0), BAD);
        due("101", x.days(101), BAD);
        due("-1", x.days(-1), BAD);
        due("1", x.days(1), 1);
        for (int i = 0; i < 29; i++) due("100", x.days(100), 101 + 100 * i);
        due("above 3000", x.days(100), BAD);
        due("up to 3000", x.days(99), 3000);
        due("one more", x.days(1), BAD);
        due("today", x.count(8), 3000);
    }

    private static void rule() {
        DayFines x = new DayFines();
        int[] most = {99999, 3000, 999, 999, 100, 9999, 9999, 9999, 3000, 3000, 100, 3000, 3000, 9999, 100, 9999};
        for (int i = 0; i < 16; i++) {
            due("rule " + i + " below 0", x.rule(i, -1), BAD);
            due("rule " + i + " too great", x.rule(i, most[i] + 1), BAD);
            x.rule(i, most[i]);
            due("rule " + i + " was", x.rule(i, 0), most[i]);
            due("rule " + i + " was 0", x.rule(i, 1), 0);
        }
        due("rule -1", x.rule(-1, 0), BAD);
        due("rule 16", x.rule(16, 0), BAD);
        due("rule " + LOW, x.rule(LOW, 0), BAD);
    }

    private static void deed() {
        DayFines x = court("", 0, 0);
        go(x, 3);
        due("kind -1", x.deed(-1, 0, 0, 1), BAD);
        due("kind 4", x.deed(4, 0, 0, 1), BAD);
        due("person", x.deed(0, 2, 0, 1), BAD);
        due("day -1", x.deed(0, 0, -1, 1), BAD);
        due("behind today", x.deed(0, 0, 4, 1), BAD);
        due("weight 0", x.deed(0, 0, 0, 0), BAD);
        due("weight 101", x.deed(0, 0, 0, 101), BAD);
        for (int i = 0; i < 30; i++) due("deed", x.deed(i % 4, i % 2, i % 4, 100), i);
        due("a 31st", x.deed(0, 0, 0, 1), FULL);
        due("a bad 31st", x.deed(0, 0, 0, 0), BAD);
        due("deeds", x.count(2), 30);
    }

    private static void isOf() {
        DayFines x = court("", 0);
        for (int k = 0; k < 4; k++) x.deed(k, 0, 0, 1);
        int[][] want = {{1, 0, 0, 0}, {1, 1, 0, 0}, {1, 0, 1, 0}, {1, 0, 1, 1}};
        for (int d = 0; d < 4; d++) {
            for (int k = 0; k < 4; k++) due("isOf(" + d + ", " + k + ")", x.isOf(d, k), want[d][k]);
        }
        due("deed", x.isOf(4, 0), BAD);
        due("deed below 0", x.isOf(-1, 0), BAD);
        due("kind 4", x.isOf(0, 4), BAD);
        due("kind -1", x.isOf(0, -1), BAD);
    }

    private static void told() {
        DayFines x = court("days 1 sum 1 hours 1", 0, 0);
        go(x, 10);
        x.deed(3, 1, 10, 77);
        int[] want = {3, 1, 10, 77, 0, NONE};
        for (int what = 0; what < 6; what++) due("told " + what, x.told(0, what), want[what]);
        due("what -1", x.told(0, -1), BAD);
        due("what 6", x.told(0, 6), BAD);
        due("deed", x.told(1, 0), BAD);
        due("deed below 0", x.told(-1, 0), BAD);
        due("judge", x.judge(1), 0);
        due("its judgment", x.told(0, 5), 0);
        due("made on its day", x.told(0, 4), 0);
        x.rule(1, 5);
        go(x, 6);
        for (int day = 10; day <= 16; day++) x.deed(0, 1, day, 1);
        x.deed(0, 0, 12, 1);
        due("on the judgment's day", x.told(1, 4), 0);
        due("a day behind", x.told(2, 4), 1);
        due("5 days behind", x.told(6, 4), 1);
        due("6 days behind", x.told(7, 4), 0);
        due("of another person", x.told(8, 4), 0);
        x.rule(1, 6);
        due("with more YEARS", x.told(7, 4), 1);
        x.rule(1, 0);
        due("with no YEARS", x.told(2, 4), 0);
    }

    private static void flat() {
        DayFines x = new DayFines();
        due("kind -1", x.flat(-1, 0), BAD);
        due("kind 4", x.flat(4, 0), BAD);
        due("v -1", x.flat(0, -1), BAD);
        due("v 10000", x.flat(0, 10000), BAD);
        for (int k = 0; k < 4; k++) due("at first", x.flat(k, 9999 - k), 0);
        for (int k = 0; k < 4; k++) due("was", x.flat(k, 0), 9999 - k);
    }

    private static void feed() {
        DayFines x = new DayFines();
        for (int i = 1; i <= 10; i++) due("feed", x.feed(LOW, -1, HIGH), 12 * i);
        due("an eleventh", x.feed(0, 0, 0), FULL);
        due("bytes", x.count(7), 120);
        x.trim(109);
        due("one byte too many", x.feed(0, 0, 0), FULL);
        x.trim(108);
        due("just as many", x.feed(0, 0, 0), 120);
        x.trim(0);
        feedText(x, "days 1 sum 2 hours 3");
        due("the highest byte first", x.law(), 3);
        x.feed(0x64617973, 0x80808080, 0);
        due("bytes above 127 are signs", x.law(), -104);
    }

    private static void trim() {
        DayFines x = new DayFines();
        due("nothing there", x.trim(1), BAD);
        due("nothing of nothing", x.trim(0), 0);
        x.feed(1, 2, 3);
        due("-1", x.trim(-1), BAD);
        due("13", x.trim(13), BAD);
        due("12", x.trim(12), 12);
        due("5", x.trim(5), 5);
        due("bytes", x.count(7), 5);
        due("6", x.trim(6), BAD);
        due("0", x.trim(0), 0);
    }

    private static void faultAt(String text, int place) {
        due("law of '" + text + "'", law(new DayFines(), text), -100 - place);
    }

    private static void parts(String text, int parts) {
        due("law of '" + text + "'", law(new DayFines(), text), parts);
    }

    private static void lawText() {
        parts("days g sum i hours u", 3);
        parts("   days(g)sum(i)hours(u)   ", 3);
        faultAt("days g+p*a-k/y sum i|n&w<d=0 hours !u", 26);
        parts("days g+p*a-k/y sum (i|n&w<d)=s+y hours !u>00000", 13);
        parts("days ((((((((1)))))))) sum !!!!!!!!1 hours !(!(!(!(!(!(!(!(1))))))))", 3);
        faultAt("", 0);
        faultAt("    ", 4);
        faultAt("days", 4);
        faultAt("day", 0);
        faultAt("dayss g sum i hours u", 0);
        faultAt("Days g sum i hours u", 0);
        faultAt("sum i days g hours u", 0);
        faultAt("+days g sum i hours u", 0);
        faultAt("days g sum i hours ", 19);
        faultAt("days g sum i", 12);
        faultAt("days g sum i hours u u", 21);
        faultAt("days g sum i hours u hours u", 21);
        faultAt("days g sum i hours (u", 21);
        faultAt("days g sum i hours u)", 20);
        faultAt("days g) sum i hours u", 6);
        faultAt("days (g sum i hours u", 8);
        faultAt("days () sum i hours u", 6);
        faultAt("days i sum i hours u", 5);
        faultAt("days g sum g hours u", 11);
        faultAt("days g sum i hours i", 19);
        faultAt("days gg sum i hours u", 5);
        faultAt("days 1sum i hours u", 6);
        faultAt("days g2 sum i hours u", 6);
        faultAt("days2 sum i hours u", 4);
        faultAt("days 2g sum i hours u", 6);
        faultAt("days 123456 sum i hours u", 5);
        faultAt("days 1<2<3 sum i hours u", 8);
        faultAt("days 1<2+3=4 sum i hours u", 10);
        parts("days (1<2)<3 sum i hours 1<2&3>4|5=6", 10);
        faultAt("days g + sum i hours u", 9);
        faultAt("days g + * 2 sum i hours u", 9);
        faultAt("days -1 sum i hours u", 5);
        faultAt("days g ! sum i hours u", 7);
        faultAt("days g % 2 sum i hours u", 7);
        faultAt("days\tg sum i hours u", 4);
        faultAt("days (((((((((1))))))))) sum i hours u", 13);
        faultAt("days !!!!!!!!!1 sum i hours u", 13);
        faultAt("days !(!(!(!(!(!(!(!(!1)))))))) sum i hours u", 21);
        parts("days ((((1))))+((((((((1)))))))) sum !!!!!!!!1+!!!!!!!!1 hours u", 5);
        faultAt("days 1 sum 2 hours", 18);
        faultAt("xays g sum i hours u", 0);
        faultAt("daxs g sum i hours u", 0);
        faultAt("days gz sum i hours u", 5);
        faultAt("days g sum i hourz u", 13);
    }

    private static void lawState() {
        DayFines x = court("days 7 sum 8 hours 9", 0);
        x.deed(0, 0, 0, 1);
        due("a fault", law(x, "days 5 sum 5 hours z"), -119);
        due("the tape is used up", x.count(7), 0);
        due("the law stays", x.worth(0), 7);
        due("another law", law(x, "days 5 sum 5 hours 5"), 3);
        due("the tape is used up", x.count(7), 0);
        due("it is the law", x.worth(0), 5);
        due("an open fault", law(x, "days !((1-(2*"), -113);
        due("as if there was none", law(x, "days 50-3 sum 1 hours !1"), 4);
        due("nothing is left of it", x.worth(0), 47);
        feedText(x, "days 1 sum 2 hours uuuuu");
        x.trim(20);
        due("what was trimmed is no word's end", x.law(), 3);
    }

    private static void gives(String e, int want) {
        DayFines x = court("days 0 sum " + e + " hours 0", 0);
        x.rule(6, 0);
        x.rule(7, 9999);
        due("sum of " + e, x.sum(0, 0, 0), want);
    }

    private static void expressions() {
        gives("2+3*4", 14);
        gives("(2+3)*4", 20);
        gives("20-5-3", 12);
        gives("100/7/2", 7);
        gives("7*10/3", 23);
        gives("5/0", 0);
        gives("(0-7)/2+10", 7);
        gives("1<2", 1);
        gives("2<2", 0);
        gives("2>1", 1);
        gives("2>2", 0);
        gives("2=2", 1);
        gives("2=3", 0);
        gives("5&6", 1);
        gives("5&0", 0);
        gives("0|6", 1);
        gives("0|0", 0);
        gives("!5", 0);
        gives("!0", 1);
        gives("!!5", 1);
        gives("!0+1", 2);
        gives("!(0+1)", 0);
        gives("1|0&0", 1);
        gives("1+1<3&2", 1);
        gives("3<1+1|4>3", 1);
        gives("99999*99999/99999-10000", 4098);
        gives("(65536*32768)/(0-1)/65536+32768", 0);
        gives("65536*65535+65536", 0);
        gives("00042", 42);
    }

    private static void worth() {
        DayFines x = court("", 0, 1, 2);
        x.deed(3, 0, 0, 40);
        due("no law", x.worth(0), NO);
        due("deed and no law", x.worth(1), BAD);
        law(x, "days g+a*10+k*100-y*5 sum 1 hours 1");
        x.rule(3, 999);
        x.deed(2, 1, 0, 1);
        x.deed(1, 2, 0, 2);
        due("drunk", x.worth(0), 350);
        due("driving, young", x.worth(1), 206);
        due("theft, student", x.worth(2), 97);
        x.rule(2, 300);
        due("least", x.worth(1), 300);
        x.rule(3, 320);
        due("most", x.worth(0), 320);
        x.rule(3, 250);
        due("most counts", x.worth(1), 250);
        due("deed below 0", x.worth(-1), BAD);
        DayFines past = court("days 10+p sum 1 hours 1", 0);
        past.deed(0, 0, 0, 1);
        past.judge(0);
        go(past, 1);
        past.deed(0, 0, 1, 1);
        due("past", past.worth(1), 11);
        law(past, "days 0-5 sum 1 hours 1");
        due("below 0", past.worth(1), 1);
    }

    private static void sum() {
        DayFines x = court("", 2, 0, 1);
        due("no law", x.sum(0, 0, 0), NO);
        due("no law, no person", x.sum(3, 0, 0), BAD);
        law(x, "days 1 sum i+n*10+w*2-d+s*7+y*100 hours 1");
        x.rule(7, 9999);
        x.fact(0, 0, 0, 500, 0);
        x.fact(0, 1, 0, 3, 0);
        x.fact(0, 2, 0, 40, 0);
        x.fact(0, 3, 0, 9, 0);
        due("student", x.sum(0, 0, 0), 500 + 30 + 80 - 9 + 7 + 100);
        due("person", x.sum(1, 0, 0), 1000);
        due("young", x.sum(2, 0, 0), 1100);
        x.couple(0, 1);
        due("a couple", x.sum(1, 0, 0), 750);
        due("wealth is one's own", x.sum(0, 0, 0), 750 + 30 + 80 - 9 + 107);
        x.rule(7, 700);
        due("roof", x.sum(1, 0, 0), 700);
        x.rule(6, 800);
        due("roof counts", x.sum(1, 0, 0), 700);
        x.rule(7, 900);
        due("floor", x.sum(1, 0, 0), 800);
        go(x, 9);
        x.fact(1, 0, 1, 1300, 5);
        due("as known then", x.sum(1, 5, 8), 800);
        due("as known today", x.sum(1, 5, 9), 900);
        due("ahead of it", x.sum(1, 4, 9), 800);
        due("day -1", x.sum(0, -1, 0), BAD);
        due("day 3001", x.sum(0, 3001, 0), BAD);
        due("asOf -1", x.sum(0, 0, -1), BAD);
        due("asOf 10", x.sum(0, 0, 10), BAD);
        law(x, "days 1 sum 0-3 hours 1");
        due("below 0", x.sum(0, 3000, 9), 800);
    }

    private static void judge() {
        DayFines x = court("", 0, 0);
        x.deed(0, 0, 0, 31);
        due("no law", x.judge(0), NO);
        due("no law, no person", x.judge(2), BAD);
        law(x, "days g sum i/30 hours u");
        due("no deed", x.judge(1), NO);
        x.deed(0, 0, 0, 33);
        x.deed(0, 0, 0, 33);
        x.deed(0, 1, 0, 50);
        x.rule(4, 33);
        x.custody(0, 6);
        due("open deeds", x.count(5), 4);
        due("judge", x.judge(0), 0);
        due("open deeds", x.count(5), 1);
        due("joined less custody", x.about(0, 2), 33 + 10 + 10 - 6);
        due("custody is gone", x.count(9), 0);
        due("sum", x.about(0, 3), 33);
        due("no deed any more", x.judge(0), NO);
        x.custody(1, 60);
        due("judge", x.judge(1), 1);
        due("custody beyond days", x.about(1, 2), 0);
        due("custody is left", x.count(9), 10);
        x.rule(5, 40);
        x.deed(0, 0, 0, 41);
        x.judge(0);
        due("top", x.about(2, 2), 40);
        DayFines many = court("days 1 sum 1 hours 1", 0);
        for (int i = 0; i < 16; i++) {
            many.deed(0, 0, 0, 1);
            due("judgment", many.judge(0), i);
        }
        due("nothing to judge", many.judge(0), NO);
        many.deed(0, 0, 0, 1);
        due("a 17th", many.judge(0), FULL);
        due("the deed stays open", many.told(16, 5), NONE);
    }

    private static void about() {
        DayFines x = court("days g sum 70 hours u*2", 0, 3);
        go(x, 4);
        x.fact(1, 2, 1, 48000, 0);
        x.flat(1, 300);
        x.flat(3, 1000);
        x.deed(1, 1, 4, 10);
        x.deed(3, 1, 3, 20);
        x.judge(1);
        x.pay(0, 99);
        int[] want = {1, 4, 25, 70, 1750, 99, 1651, 24, 0, 0, 2, 875, 650, 369};
        for (int what = 0; what < 14; what++) due("about " + what, x.about(0, what), want[what]);
        due("what -1", x.about(0, -1), BAD);
        due("what 14", x.about(0, 14), BAD);
        due("judgment", x.about(1, 0), BAD);
        due("judgment below 0", x.about(-1, 0), BAD);
        x.rule(12, 10);
        due("due by the rule", x.about(0, 13), 14);
        go(x, 1);
        x.fact(1, 0, 0, 99999, 0);
        due("share as known then", x.about(0, 11), 875);
        x.couple(0, 1);
        due("share of a couple", x.about(0, 11), 1750 * 1000 / 1500);
        DayFines poor = judged(999, 9999);
        poor.rule(0, 0);
        due("share at most", poor.about(0, 11), 9999999);
        due("no flat", poor.about(0, 12), 0);
        due("fine", poor.about(0, 4), 999 * 9999);
        poor.appeal(0, 0, 2);
        poor.appeal(0, 1, 3);
        due("earns 1 at least", poor.about(0, 11), 6000);
        poor.rule(0, 1);
        due("earns 1", poor.about(0, 11), 6000);
        poor.rule(0, 2);
        due("earns 2", poor.about(0, 11), 3000);
        DayFines free = court("days 5 sum 0 hours 1", 0);
        free.rule(6, 0);
        free.deed(0, 0, 0, 1);
        free.judge(0);
        due("unpaid days of sum 0", free.about(0, 7), 0);
        due("unpaid coins of sum 0", free.about(0, 6), 0);
    }

    private static void appeal() {
        DayFines x = judged(20, 50);
        x.rule(3, 120);
        x.rule(7, 1000);
        due("judgment", x.appeal(1, 0, 1), BAD);
        due("part -1", x.appeal(0, -1, 1), BAD);
        due("part 2", x.appeal(0, 2, 1), BAD);
        due("days -1", x.appeal(0, 0, -1), BAD);
        due("days 121", x.appeal(0, 0, 121), BAD);
        due("sum 1001", x.appeal(0, 1, 1001), BAD);
        go(x, 30);
        due("days up to MOST", x.appeal(0, 0, 120), 20);
        due("days", x.about(0, 2), 120);
        due("days again", x.appeal(0, 0, 1), NO);
        due("days again, bad", x.appeal(0, 0, 121), BAD);
        go(x, 1);
        due("too late", x.appeal(0, 1, 1), NO);
        x.rule(8, 31);
        due("sum up to ROOF", x.appeal(0, 1, 1000), 50);
        due("sum", x.about(0, 3), 1000);
        due("sum again", x.appeal(0, 1, 1), NO);
        DayFines later = court("days g sum 5 hours u", 0);
        go(later, 20);
        later.deed(0, 0, 20, 9);
        later.judge(0);
        go(later, 30);
        due("BAR days behind a later day", later.appeal(0, 0, 1), 9);
        go(later, 1);
        due("too late behind a later day", later.appeal(0, 1, 1), NO);
        DayFines turned = judged(20, 50);
        turned.rule(11, 0);
        turned.step(0);
        turned.step(0);
        due("warned", turned.appeal(0, 0, 19), 20);
        turned.step(0);
        due("turned", turned.appeal(0, 1, 1), NO);
    }

    private static void reopen() {
        DayFines x = court("days 10 sum i/10 hours u", 0);
        x.deed(0, 0, 0, 1);
        x.judge(0);
        due("judgment", x.reopen(1), BAD);
        due("judgment below 0", x.reopen(-1), BAD);
        due("nothing new", x.reopen(0), 100);
        go(x, 7);
        x.fact(0, 0, 1, 2000, 0);
        x.fact(0, 0, 1, 5000, 1);
        due("by facts of its day", x.reopen(0), 200);
        due("sum", x.about(0, 3), 200);
        x.appeal(0, 1, 9);
        due("anew", x.reopen(0), 200);
        due("appealed before", x.appeal(0, 1, 3), NO);
        go(x, 393);
        due("just in time", x.reopen(0), 200);
        go(x, 1);
        due("too late", x.reopen(0), NO);
        x.rule(9, 401);
        law(x, "days 10 sum i hours u");
        due("by the law as it is", x.reopen(0), 1000);
        x.rule(11, 0);
        for (int i = 0; i < 3; i++) x.step(0);
        due("turned", x.reopen(0), NO);
        x.rule(7, 9999);
        x.deed(0, 0, 401, 1);
        x.judge(0);
        go(x, 400);
        due("AGAIN days behind a later day", x.reopen(1), 5000);
    }

    private static void pay() {
        DayFines x = judged(10, 50);
        due("judgment", x.pay(1, 1), BAD);
        due("0 coins", x.pay(0, 0), BAD);
        due("too many coins", x.pay(0, 10000000), BAD);
        due("some", x.pay(0, 451), 0);
        due("unpaid", x.about(0, 6), 49);
        due("unpaid days", x.about(0, 7), 1);
        due("more than wanted", x.pay(0, 9999999), 9999950);
        due("paid", x.about(0, 5), 500);
        due("none wanted", x.pay(0, 3), 3);
        due("paid", x.about(0, 5), 500);
        x.appeal(0, 0, 1);
        due("over", x.pay(0, 3), 3);
        due("unpaid", x.about(0, 6), 0);
        DayFines turned = judged(10, 50);
        turned.rule(11, 0);
        for (int i = 0; i < 3; i++) turned.step(0);
        due("turned", turned.pay(0, 1), NO);
        due("turned, bad", turned.pay(0, 0), BAD);
    }

    private static void back() {
        DayFines x = judged(999, 9999);
        x.rule(8, 3000);
        due("judgment", x.back(1), BAD);
        due("nothing is over", x.back(0), NO);
        x.pay(0, 9989001);
        due("nothing is over", x.back(0), NO);
        x.rule(10, 100);
        go(x, 3000);
        x.appeal(0, 0, 0);
        due("back", x.back(0), 9989001 + (int) (9989001L * 100 * 3000 / 36500));
        due("paid is fine", x.about(0, 5), 0);
        due("back again", x.back(0), NO);
        DayFines small = judged(10, 100);
        small.pay(0, 1000);
        go(small, 30);
        small.appeal(0, 1, 1);
        due("cut", small.back(0), 990 + 990 * 4 * 30 / 36500);
        due("paid is fine", small.about(0, 5), 10);
        DayFines later = court("days 11 sum 1 hours u", 0);
        go(later, 100);
        later.rule(10, 100);
        later.deed(0, 0, 0, 1);
        later.judge(0);
        later.pay(0, 11);
        go(later, 30);
        later.appeal(0, 0, 10);
        due("one coin, with interest below one", later.back(0), 1);
        DayFines grown = court("days 100 sum 100 hours u", 0);
        go(grown, 100);
        grown.deed(0, 0, 0, 1);
        grown.judge(0);
        grown.pay(0, 10000);
        go(grown, 30);
        grown.appeal(0, 0, 0);
        due("interest since the judgment", grown.back(0), 10000 + 10000 * 4 * 30 / 36500);
    }

    private static void step() {
        DayFines x = judged(10, 50);
        due("judgment", x.step(1), BAD);
        due("judgment below 0", x.step(-1), BAD);
        go(x, 29);
        due("too soon", x.step(0), NO);
        go(x, 1);
        due("told", x.step(0), 1);
        due("its step", x.about(0, 8), 1);
        due("too soon", x.step(0), NO);
        go(x, 40);
        due("warned", x.step(0), 2);
        go(x, 29);
        due("too soon behind the last", x.step(0), NO);
        go(x, 1);
        x.pay(0, 101);
        due("no hours yet", x.about(0, 9), 0);
        due("turned", x.step(0), 3);
        due("hours", x.about(0, 9), 8 * 4);
        go(x, 30);
        due("no more", x.step(0), NO);
        DayFines paid = judged(10, 50);
        paid.rule(11, 0);
        paid.pay(0, 500);
        due("nothing is unpaid", paid.step(0), NO);
        DayFines long1 = court("days 10 sum 1 hours u*99999+y", 1);
        long1.rule(11, 0);
        long1.deed(0, 0, 0, 1);
        long1.judge(0);
        for (int i = 1; i <= 3; i++) due("step", long1.step(0), i);
        due("hours at most", long1.about(0, 9), 9999);
        DayFines none = court("days 10 sum 1 hours y-2", 1);
        none.rule(11, 0);
        none.deed(0, 0, 0, 1);
        none.judge(0);
        for (int i = 1; i <= 3; i++) due("step", none.step(0), i);
        due("hours at least", none.about(0, 9), 0);
        DayFines young = court("days 10 sum 1 hours u+y*5", 2);
        young.rule(11, 0);
        young.deed(0, 0, 0, 1);
        young.judge(0);
        for (int i = 1; i <= 3; i++) due("step", young.step(0), i);
        due("hours of a young one", young.about(0, 9), 15);
    }

    private static void work() {
        DayFines x = judged(10, 50);
        x.rule(11, 0);
        x.step(0);
        x.step(0);
        due("not turned", x.work(0, 1), NO);
        x.step(0);
        due("judgment", x.work(1, 1), BAD);
        due("0 hours", x.work(0, 0), BAD);
        due("10000 hours", x.work(0, 10000), BAD);
        due("too many", x.work(0, 41), NO);
        due("some", x.work(0, 15), 25);
        due("left", x.about(0, 9), 25);
        due("too many then", x.work(0, 26), NO);
        due("all", x.work(0, 25), 0);
        due("none left", x.work(0, 1), NO);
    }

    private static void level() {
        DayFines x = court("days g sum 10 hours u", 0, 0);
        due("nothing is unpaid", x.level(0), 0);
        due("person", x.level(2), BAD);
        due("person below 0", x.level(-1), BAD);
        x.rule(12, 89);
        x.deed(0, 0, 0, 61);
        x.judge(0);
        due("three months", x.level(0), 204);
        x.rule(12, 90);
        due("four months", x.level(0), 153);
        due("of another one", x.level(1), 0);
        x.rule(13, 800);
        due("rooms are too small", x.level(0), NO);
        x.rule(12, 150);
        due("at the very least", x.level(0), NO);
        x.rule(12, 180);
        due("seven rooms of 100", x.level(0), 88);
        go(x, 180);
        due("on the last day", x.level(0), NO);
        x.pay(0, 510);
        due("the last room", x.level(0), 100);
        go(x, 1);
        due("late", x.level(0), NO);
        x.rule(11, 0);
        for (int i = 0; i < 3; i++) x.step(0);
        due("turned", x.level(0), 0);
        DayFines coin = court("days 1 sum 1 hours u", 0);
        coin.deed(0, 0, 0, 1);
        coin.judge(0);
        due("one coin", coin.level(0), 1);
        due("one coin in one row", checked(coin, 0, 1), 0);
    }

    private static void levelOfSeveral() {
        DayFines x = court("days g sum 10 hours u", 0);
        x.rule(12, 60);
        x.deed(0, 0, 0, 30);
        x.judge(0);
        go(x, 45);
        x.deed(0, 0, 45, 100);
        x.judge(0);
        x.fact(0, 0, 0, 500, 80);
        // judgment 0 is due on 60: the month of 45; judgment 1 on 105: those of 45, 75 and 105, of 350, 350 and 100
        due("first room", x.room(0, 0), 350);
        due("last room", x.room(0, 2), 100);
        due("too much for both", x.level(0), NO);
        x.pay(1, 400);
        due("too much by one month", x.level(0), NO);
        x.pay(1, 100);
        due("in three months", x.level(0), 350);
        x.pay(1, 200);
        due("the first judgment counts", x.level(0), 300);
        due("month 0", x.month(0, 0), 300);
        due("month 1", x.month(0, 1), 300);
        due("month 2", x.month(0, 2), 0);
    }

    private static void month() {
        DayFines x = court("days g sum 10 hours u", 0);
        due("nothing is unpaid", x.month(0, 0), 0);
        x.rule(12, 89);
        x.deed(0, 0, 0, 61);
        x.judge(0);
        int[] want = {204, 204, 202, 0};
        for (int m = 0; m < 4; m++) due("month " + m, x.month(0, m), want[m]);
        due("month 23", x.month(0, 23), 0);
        due("month 24", x.month(0, 24), BAD);
        due("month -1", x.month(0, -1), BAD);
        due("person", x.month(1, 0), BAD);
        x.rule(14, 0);
        due("no level", x.month(0, 0), NO);
        due("no level, bad month", x.month(0, 24), BAD);
    }

    private static void room() {
        DayFines x = court("", 0, 3);
        due("room", x.room(0, 0), 350);
        x.rule(14, 33);
        due("cut", x.room(0, 23), 231);
        x.fact(0, 1, 0, 1, 30);
        x.fact(0, 3, 0, 101, 60);
        due("month 0", x.room(0, 0), 231);
        due("needy", x.room(0, 1), 132);
        due("needy, with debt", x.room(0, 2), 299 * 33 / 100);
        x.rule(13, 9999);
        x.rule(14, 100);
        due("0 at least", x.room(0, 0), 0);
        x.rule(13, 0);
        x.rule(14, 100);
        x.fact(1, 2, 1, 99999, 45);
        x.couple(0, 1);
        due("a couple ahead of 45", x.room(0, 1), 1000);
        due("a couple behind 45", x.room(0, 2), (1000 + 4166) / 2 - 101);
        due("person", x.room(2, 0), BAD);
        due("month 24", x.room(0, 24), BAD);
        due("month -1", x.room(0, -1), BAD);
        go(x, 3000);
        due("beyond the last day", x.room(1, 23), 2583);
    }

    private static void tell() {
        DayFines x = new DayFines();
        for (int i = 1; i <= 30; i++) due("tell", x.tell(i % 2 == 0 ? LOW : HIGH), i);
        due("a 31st", x.tell(0), FULL);
        due("waiting", x.count(6), 30);
    }

    private static int checked(DayFines x, int person, int... rows) {
        for (int row : rows) x.tell(row);
        int answer = x.check(person);
        due("none wait any more", x.count(6), 0);
        return answer;
    }

    private static void check() {
        DayFines x = court("days g sum 10 hours u", 0);
        due("nothing is unpaid", checked(x, 0), 0);
        due("one too many", checked(x, 0, 0), 1);
        x.rule(12, 89);
        x.deed(0, 0, 0, 61);
        x.judge(0);
        due("rows", checked(x, 0, 204, 204, 202), 0);
        due("none", checked(x, 0), 1);
        due("the first", checked(x, 0, 203, 204, 202), 1);
        due("the second", checked(x, 0, 204, 0, 202), 2);
        due("the third", checked(x, 0, 204, 204, 203), 3);
        due("missing", checked(x, 0, 204, 204), 3);
        due("one too many", checked(x, 0, 204, 204, 202, 0), 4);
        due("person", checked(x, 1, 204), BAD);
        x.fact(0, 3, 0, 9999, 0);
        due("no level", checked(x, 0, 204), NO);
        x.fact(0, 3, 0, 0, 60);
        x.rule(12, 365);
        due("the debt is gone by then", x.room(0, 2), 350);
        due("months without room are rows", checked(x, 0, 0, 0, 56, 56, 56, 56, 56, 56, 56, 56, 56, 56, 50), 0);
    }

    private static void alike() {
        DayFines x = court("days g sum 1 hours 1", 0, 1, 2, 3, 0, 0);
        int[][] deeds = {{0, 2, 10}, {0, 3, 10}, {1, 2, 10}, {1, 3, 10}, {2, 3, 5}, {2, 2, 20}, {3, 3, 13}, {3, 2, 1},
            {4, 2, 10}, {4, 2, 10}, {5, 2, 7}, {5, 3, 7}};
        for (int[] d : deeds) x.deed(d[1], d[0], 0, d[2]);
        for (int p = 0; p < 6; p++) x.judge(p);
        due("young and not", x.alike(0, 1), 0);
        due("young and student, 5 apart", x.alike(1, 2), 1);
        due("5 apart the other way", x.alike(2, 1), 1);
        due("6 apart", x.alike(0, 3), 0);
        due("6 apart the other way", x.alike(5, 0), 0);
        due("kinds", x.alike(0, 4), 0);
        due("0 apart", x.alike(3, 5), 1);
        due("one", x.alike(0, 0), BAD);
        due("no such", x.alike(0, 6), BAD);
        due("no such", x.alike(-1, 0), BAD);
        x.deed(2, 0, 0, 1);
        x.judge(0);
        due("fewer deeds", x.alike(6, 0), 0);
    }

    private static void unlike() {
        DayFines x = court("days g sum 1 hours 1", 0, 1);
        int[] weights = {10, 10, 12, 15, 5, 30, 35};
        for (int w : weights) {
            x.deed(0, 0, 0, w);
            x.judge(0);
        }
        due("the first of several", x.unlike(), 3);
        x.deed(0, 0, 0, 40);
        x.judge(0);
        x.appeal(7, 0, 29);
        due("by days as they are", x.unlike(), 607);
        x.deed(0, 1, 0, 100);
        x.judge(1);
        due("a young one is like none", x.unlike(), 607);
        DayFines same = court("days 3 sum 1 hours 1", 0);
        for (int i = 0; i < 3; i++) {
            same.deed(0, 0, 0, 1 + i);
            same.judge(0);
        }
        due("none differ", same.unlike(), NONE);
        same.appeal(2, 0, 4);
        due("the lesser number first", same.unlike(), 2);
    }

    private static void spread() {
        DayFines x = court("days g sum 10 hours 1", 0, 0);
        due("what -1", x.spread(-1), BAD);
        due("what 2", x.spread(2), BAD);
        due("without any", x.spread(1), 0);
        x.fact(1, 0, 0, 500, 0);
        x.flat(0, 100);
        x.flat(1, 250);
        x.deed(0, 0, 0, 10);
        x.deed(1, 1, 0, 10);
        x.judge(0);
        due("of one", x.spread(0), 0);
        x.judge(1);
        due("shares", x.spread(0), 200 - 100);
        due("flat ones", x.spread(1), 500 - 100);
    }

    private static void slip() {
        DayFines x = court("", 0);
        due("missing", x.slip(0, 0), NOTHING);
        due("person", x.slip(1, 0), BAD);
        due("sheet 2", x.slip(0, 2), BAD);
        due("sheet -1", x.slip(0, -1), BAD);
        x.sheet(0, 0);
        due("empty", x.slip(0, 0), NONE);
        x.sheet(0, 5);
        due("zeros", x.slip(0, 0), NONE);
        x.mark(0, 0, HIGH);
        x.mark(0, 1, HIGH);
        x.mark(0, 2, 1);
        x.mark(0, 3, LOW);
        due("beyond an int", x.slip(0, 0), 3);
        x.mark(0, 2, 0);
        x.mark(0, 3, HIGH);
        x.mark(0, 4, -1);
        due("below 0", x.slip(0, 0), 4);
        x.mark(0, 4, 6);
        due("pay alone at the end", x.slip(0, 0), NONE);
        x.sheet(1, 24);
        int all = 0;
        for (int i = 0; i < 12; i++) {
            all += 990 + i;
            x.mark(1, 2 * i, 990 + i);
            x.mark(1, 2 * i + 1, all);
        }
        due("not the income of a year", x.slip(0, 1), 23);
        x.rule(15, 12000 - all);
        due("within SLACK", x.slip(0, 1), NONE);
        x.rule(15, 12000 - all - 1);
        due("beyond SLACK", x.slip(0, 1), 23);
        x.rule(15, 0);
        x.rule(0, all / 12);
        x.rule(15, all - all / 12 * 12);
        due("above, within SLACK", x.slip(0, 1), NONE);
        x.rule(15, all - all / 12 * 12 - 1);
        due("above, beyond SLACK", x.slip(0, 1), 23);
        x.mark(1, 5, 0);
        due("the first place", x.slip(0, 1), 5);
    }

    private static void images() {
        DayFines x = court("days 5 sum 6 hours 7", 0, 3);
        due("none", x.again(), NO);
        go(x, 3);
        x.couple(0, 1);
        x.fact(0, 0, 0, 77, 0);
        x.custody(0, 2);
        x.flat(0, 9);
        x.rule(6, 2);
        x.deed(0, 0, 0, 1);
        x.keep();
        x.judge(0);
        x.again();
        due("the deed is in none again", x.told(0, 5), NONE);
        due("custody is back", x.count(9), 2);
        x.judge(0);
        x.pay(0, 1);
        x.deed(1, 0, 1, 1);
        x.tell(1);
        x.feed(1, 2, 3);
        x.sheet(0, 3);
        due("keep", x.keep(), 3);
        for (int round = 0; round < 2; round++) {
            go(x, 100);
            x.part(0);
            x.person(2);
            x.fact(0, 0, 1, 99, 0);
            x.custody(1, 4);
            x.flat(0, 10);
            x.rule(6, 9);
            law(x, "days 50 sum 60 hours 70");
            x.judge(0);
            x.pay(0, 2);
            x.appeal(0, 0, 9);
            x.reopen(0);
            x.step(0);
            x.tell(2);
            x.mark(0, 0, 8);
            x.feed(1, 2, 3);
            due("again", x.again(), 3);
            int[] want = {2, 1, 2, 1, 1, 1, 2 + round, 12, 3, 0};
            for (int what = 0; what < 10; what++) due("count " + what, x.count(what), want[what]);
            int[] judgment = {0, 3, 3, 6, 18, 1, 17, 3, 0, 0, 1};
            for (int what = 0; what <= 10; what++) due("about " + what, x.about(0, what), judgment[what]);
            due("worth", x.worth(1), 5);
            due("sum", x.sum(0, 0, 0), 6);
            due("income", x.known(0, 0, 0, 3), 77);
            due("earns", x.known(0, 4, 0, 3), (77 + 1000) / 2);
            due("deed 1", x.told(1, 5), NONE);
            due("sheet", x.mark(0, 0, 0), 8);
            due("flat", x.flat(0, 1), 9);
            due("rule", x.rule(6, 1), 2);
            due("not yet appealed", x.appeal(0, 0, 3), 3);
        }
        go(x, 10);
        due("keep anew", x.keep(), 13);
        go(x, 10);
        due("again anew", x.again(), 13);
    }

    private static void sheet() {
        DayFines x = new DayFines();
        due("sheet -1", x.sheet(-1, 1), BAD);
        due("sheet 2", x.sheet(2, 1), BAD);
        due("sheet 2, below 0", x.sheet(2, -1), BAD);
        due("25 places", x.sheet(0, 25), BAD);
        due("below 0", x.sheet(0, -1), SIZE);
        due("far below 0", x.sheet(0, LOW), SIZE);
        due("still missing", x.mark(0, 0, 0), NOTHING);
        due("24 places", x.sheet(0, 24), 24);
        x.mark(0, 0, 4);
        x.mark(0, 3, 5);
        due("anew", x.sheet(0, 4), 4);
        due("all 0, the first", x.mark(0, 0, 1), 0);
        due("all 0", x.mark(0, 3, 1), 0);
        due("refused", x.sheet(0, -1), SIZE);
        due("it stays", x.mark(0, 3, 1), 1);
        due("none", x.sheet(0, 0), 0);
        due("no place", x.mark(0, 0, 1), INDEX);
    }

    private static void mark() {
        DayFines x = new DayFines();
        due("sheet -1", x.mark(-1, 0, 0), BAD);
        due("sheet 2", x.mark(2, 0, 0), BAD);
        due("missing", x.mark(1, -1, 0), NOTHING);
        x.sheet(1, 3);
        due("place -1", x.mark(1, -1, 0), INDEX);
        due("place 3", x.mark(1, 3, 0), INDEX);
        due("place 2", x.mark(1, 2, LOW), 0);
        due("place 2", x.mark(1, 2, HIGH), LOW);
        due("place 2", x.mark(1, 2, 0), HIGH);
        due("the other one", x.mark(0, 2, 0), NOTHING);
    }

    private static void copy() {
        DayFines x = new DayFines();
        x.sheet(0, 6);
        due("to a missing one", x.copy(0, 0, 1, 0, 0), NOTHING);
        due("from a missing one", x.copy(1, 99, 0, 0, 0), NOTHING);
        due("from 2", x.copy(2, 0, 0, 0, 0), BAD);
        due("to -1", x.copy(0, 0, -1, 0, 0), BAD);
        due("to 2, from a missing one", x.copy(1, 0, 2, 0, 0), BAD);
        x.sheet(1, 3);
        for (int i = 0; i < 6; i++) x.mark(0, i, i + 1);
        due("many", x.copy(0, 2, 1, 0, 3), 3);
        for (int i = 0; i < 3; i++) due("copied", x.mark(1, i, i), i + 3);
        due("forth", x.copy(0, 0, 0, 1, 5), 5);
        int[] forth = {1, 1, 2, 3, 4, 5};
        for (int i = 0; i < 6; i++) due("forth", x.mark(0, i, i + 1), forth[i]);
        due("back", x.copy(0, 1, 0, 0, 5), 5);
        int[] backward = {2, 3, 4, 5, 6, 6};
        for (int i = 0; i < 6; i++) due("back", x.mark(0, i, i), backward[i]);
        due("none", x.copy(0, 6, 1, 3, 0), 0);
        due("place beyond", x.copy(0, 7, 1, 0, 0), INDEX);
        due("at beyond", x.copy(0, 0, 1, 4, 0), INDEX);
        due("place below 0", x.copy(0, -1, 1, 0, 1), INDEX);
        due("at below 0", x.copy(0, 0, 1, -1, 1), INDEX);
        due("too many to", x.copy(0, 0, 1, 0, 4), INDEX);
        due("too many from", x.copy(1, 0, 0, 0, 4), INDEX);
        due("too many to, from a place", x.copy(0, 0, 1, 2, 2), INDEX);
        due("too many from a place", x.copy(0, 5, 1, 0, 2), INDEX);
        due("too many in one", x.copy(0, 3, 0, 4, 3), INDEX);
        due("far too many", x.copy(0, 1, 1, 1, HIGH), INDEX);
        due("many below 0", x.copy(0, 1, 1, 1, -1), INDEX);
        for (int i = 0; i < 3; i++) due("nothing changed", x.mark(1, i, 0), i);
    }

    private static void count() {
        DayFines x = court("days 1 sum 1 hours 1", 0, 1, 2);
        x.fact(0, 0, 0, 1, 0);
        x.fact(0, 0, 0, 1, 0);
        for (int i = 0; i < 5; i++) x.deed(0, i % 3, 0, 1);
        x.judge(1);
        x.couple(0, 2);
        for (int i = 0; i < 7; i++) x.tell(0);
        x.feed(0, 0, 0);
        go(x, 9);
        x.custody(1, 4);
        x.custody(2, 6);
        int[] want = {3, 2, 5, 1, 1, 3, 7, 12, 9, 10};
        for (int what = 0; what < 10; what++) due("count " + what, x.count(what), want[what]);
        due("what -1", x.count(-1), BAD);
        due("what 10", x.count(10), BAD);
    }

    private static void runFirst() {
        promise = "1"; newObject();
        promise = "2"; person();
        promise = "3"; is();
        promise = "4"; couple();
        promise = "5"; part();
        promise = "6"; fact();
        promise = "7"; known();
        promise = "8"; custody();
        promise = "9"; days();
        promise = "10"; rule();
        promise = "11"; deed();
        promise = "12"; isOf();
        promise = "13"; told();
        promise = "14"; flat();
        promise = "15"; feed();
        promise = "16"; trim();
        promise = "17"; lawText(); lawState();
        promise = "18"; expressions(); worth();
        promise = "19"; sum();
        promise = "20"; judge();
        promise = "21"; about();
    }

    private static void runLast() {
        promise = "22"; appeal();
        promise = "23"; reopen();
        promise = "24"; pay();
        promise = "25"; back();
        promise = "26"; step();
        promise = "27"; work();
        promise = "28"; level(); levelOfSeveral();
        promise = "29"; month();
        promise = "30"; room();
        promise = "31"; tell();
        promise = "32"; check();
        promise = "33"; alike();
        promise = "34"; unlike();
        promise = "35"; spread();
        promise = "36"; slip();
        promise = "37, 38"; images();
        promise = "39"; sheet();
        promise = "40"; mark();
        promise = "41"; copy();
        promise = "42"; count();
    }

    public static void main(String[] args) {
        runFirst();
        runLast();
        System.out.println(wrong == 0 ? "all promises hold" : wrong + " answers are not as due");
        if (wrong != 0) System.exit(1);
    }
}

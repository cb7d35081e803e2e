/**
 * A court that fines by days times what one earns a day. The numbered promises of the document
 * say what each call answers; every row is made with the object and used again, so that no call
 * makes anything new.
 */
public final class DayFines {
    public static final int BAD = -1000000001, NO = -1000000002, FULL = -1000000003, NONE = -1000000005,
            NOTHING = -1000000011, INDEX = -1000000013, SIZE = -1000000014;

    private static final int LAST_DAY = 3000;
    private static final int MOST_PEOPLE = 12, MOST_FACTS = 96, MOST_DEEDS = 30, MOST_JUDGMENTS = 16;
    private static final int MOST_BYTES = 120, MOST_WAITING = 30, MOST_PLACES = 24, SHEETS = 2;
    private static final int MOST_CUSTODY = 9999, MOST_COINS = 9999999, MOST_HOURS = 9999, MOST_SHARE = 9999999;

    private static final int KINDS = 4;
    private static final int YOUNG = 1, STUDENT = 2, OWNER = 3;
    private static final int DRIVING = 2, DRUNK = 3;

    private static final int INCOME = 0, NEEDY = 1, WEALTH = 2, DEBT = 3, EARNS = 4;

    private static final int OF_DAYS = 0, OF_SUM = 1, OF_HOURS = 2;

    private static final int TURNED = 3;
    private static final int MONTHS = 24, MONTH_DAYS = 30;

    private static final int GUESS = 0, YEARS = 1, LEAST = 2, MOST = 3, JOIN = 4, TOP = 5, FLOOR = 6, ROOF = 7,
            BAR = 8, AGAIN = 9, RATE = 10, GAP = 11, TERM = 12, NEED = 13, SHARE = 14, SLACK = 15, RULES = 16;
    private static final int[] RULE_AT_FIRST =
            {1000, 365, 1, 120, 50, 240, 1, 1000, 30, 400, 4, 30, 365, 300, 50, 0};
    private static final int[] RULE_AT_MOST =
            {99999, 3000, 999, 999, 100, 9999, 9999, 9999, 3000, 3000, 100, 3000, 3000, 9999, 100, 9999};

    private final State now = new State();
    private final State image = new State();
    private boolean kept = false;
    private final Reader reader = new Reader();
    private final Plan plan = new Plan();
    private final int[] waiting = new int[MOST_WAITING];
    private int waits = 0;
    private final int[][] places = new int[SHEETS][MOST_PLACES];
    private final boolean[] missing = {true, true};
    private final int[] sizes = new int[SHEETS];

    public DayFines() {
    }

    // ---- people, facts

    public int person(int kind) {
        if (!isWithin(kind, 0, KINDS - 1)) return BAD;
        if (now.peopleCount >= MOST_PEOPLE) return FULL;
        now.people[now.peopleCount].begin(kind);
        now.peopleCount++;
        return now.peopleCount - 1;
    }

    public int is(int person, int kind) {
        if (!now.hasPerson(person) || !isWithin(kind, 0, KINDS - 1)) return BAD;
        return oneIf(now.people[person].isOfKind(kind));
    }

    public int couple(int person, int other) {
        if (!now.hasPerson(person) || !now.hasPerson(other) || person == other) return BAD;
        if (now.people[person].isCoupled() || now.people[other].isCoupled()) return NO;
        now.people[person].other = other;
        now.people[other].other = person;
        return 1;
    }

    public int part(int person) {
        if (!now.hasPerson(person)) return BAD;
        int other = now.people[person].other;
        if (!now.hasPerson(other)) return NO;
        now.people[person].other = Person.NOBODY;
        now.people[other].other = Person.NOBODY;
        return other;
    }

    public int fact(int person, int what, int source, int value, int from) {
        if (!now.hasPerson(person) || !isWithin(what, INCOME, DEBT) || !isWithin(source, 0, 1)) return BAD;
        if (source == 1 && (what == NEEDY || what == DEBT)) return BAD;
        if (!isWithin(value, 0, what == NEEDY ? 9 : 99999) || !isWithin(from, 0, LAST_DAY)) return BAD;
        if (now.factCount >= MOST_FACTS) return FULL;
        Fact fact = now.facts[now.factCount];
        fact.begin(person, what, source, value, from);
        fact.since = now.today;
        now.factCount++;
        return now.factCount;
    }

    public int known(int person, int what, int day, int asOf) {
        if (!now.hasPerson(person) || !isWithin(what, INCOME, EARNS)) return BAD;
        if (!isWithin(day, 0, LAST_DAY) || !isWithin(asOf, 0, now.today)) return BAD;
        return what == EARNS ? now.earnings(person, day, asOf) : now.valueOf(person, what, day, asOf);
    }

    public int custody(int person, int n) {
        if (!now.hasPerson(person) || !isWithin(n, 1, 999)) return BAD;
        Person held = now.people[person];
        if (held.custody + n > MOST_CUSTODY) return FULL;
        held.custody += n;
        return held.custody;
    }

    public int days(int n) {
        if (!isWithin(n, 1, 100) || now.today + n > LAST_DAY) return BAD;
        now.today += n;
        return now.today;
    }

    public int rule(int which, int v) {
        if (!isWithin(which, 0, RULES - 1) || !isWithin(v, 0, RULE_AT_MOST[which])) return BAD;
        int was = now.rules[which];
        now.rules[which] = v;
        return was;
    }

    // ---- deeds

    public int deed(int kind, int person, int day, int weight) {
        if (!isWithin(kind, 0, KINDS - 1) || !now.hasPerson(person)) return BAD;
        if (!isWithin(day, 0, now.today) || !isWithin(weight, 1, 100)) return BAD;
        if (now.deedCount >= MOST_DEEDS) return FULL;
        now.deeds[now.deedCount].begin(kind, person, day, weight);
        now.deedCount++;
        return now.deedCount - 1;
    }

    public int isOf(int deed, int kind) {
        if (!now.hasDeed(deed) || !isWithin(kind, 0, KINDS - 1)) return BAD;
        return oneIf(now.deeds[deed].isOfKind(kind));
    }

    public int told(int deed, int what) {
        if (!now.hasDeed(deed)) return BAD;
        Deed one = now.deeds[deed];
        switch (what) {
            case 0: return one.kind;
            case 1: return one.person;
            case 2: return one.day;
            case 3: return one.weight;
            case 4: return now.pastOf(one);
            case 5: return one.isJudged() ? one.judgment : NONE;
            default: return BAD;
        }
    }

    public int flat(int kind, int v) {
        if (!isWithin(kind, 0, KINDS - 1) || !isWithin(v, 0, 9999)) return BAD;
        int was = now.flats[kind];
        now.flats[kind] = v;
        return was;
    }

    // ---- the law

    public int feed(int a, int b, int c) {
        Tape tape = reader.tape;
        if (tape.length + 12 > MOST_BYTES) return FULL;
        tape.addFour(a);
        tape.addFour(b);
        tape.addFour(c);
        return tape.length;
    }

    public int trim(int n) {
        if (!isWithin(n, 0, reader.tape.length)) return BAD;
        reader.tape.length = n;
        return n;
    }

    public int law() {
        int fault = reader.findFault();
        reader.tape.length = 0;
        if (fault != Reader.NO_FAULT) return -100 - fault;
        now.law.become(reader.draft);
        return now.law.parts;
    }

    public int worth(int deed) {
        if (!now.hasDeed(deed)) return BAD;
        if (!now.hasLaw()) return NO;
        return now.daysFor(now.deeds[deed]);
    }

    public int sum(int person, int day, int asOf) {
        if (!now.hasPerson(person) || !isWithin(day, 0, LAST_DAY) || !isWithin(asOf, 0, now.today)) return BAD;
        if (!now.hasLaw()) return NO;
        return now.sumFor(person, day, asOf);
    }

    // ---- judgments

    public int judge(int person) {
        if (!now.hasPerson(person)) return BAD;
        if (!now.hasLaw() || !now.hasOpenDeed(person)) return NO;
        if (now.judgmentCount >= MOST_JUDGMENTS) return FULL;
        int daysDue = now.joinedDays(person);
        int served = Math.min(daysDue, now.people[person].custody);
        now.people[person].custody -= served;
        Judgment made = now.judgments[now.judgmentCount];
        made.begin(person, now.today);
        made.days = daysDue - served;
        made.sum = now.sumFor(person, now.today, now.today);
        now.takeOpenDeeds(person, now.judgmentCount);
        now.judgmentCount++;
        return now.judgmentCount - 1;
    }

    public int about(int judgment, int what) {
        if (!now.hasJudgment(judgment)) return BAD;
        Judgment one = now.judgments[judgment];
        switch (what) {
            case 0: return one.person;
            case 1: return one.day;
            case 2: return one.days;
            case 3: return one.sum;
            case 4: return one.fine();
            case 5: return one.paid;
            case 6: return one.unpaidCoins();
            case 7: return one.unpaidDays();
            case 8: return one.step;
            case 9: return one.hours;
            case 10: return now.deedsIn(judgment);
            case 11: return now.shareOf(judgment, one.fine());
            case 12: return now.shareOf(judgment, now.flatOf(judgment));
            case 13: return one.day + now.rules[TERM];
            default: return BAD;
        }
    }

    public int appeal(int judgment, int part, int v) {
        if (!now.hasJudgment(judgment) || !isWithin(part, 0, 1)) return BAD;
        if (!isWithin(v, 0, part == 0 ? now.rules[MOST] : now.rules[ROOF])) return BAD;
        Judgment one = now.judgments[judgment];
        boolean before = part == 0 ? one.daysAppealed : one.sumAppealed;
        if (before || one.step == TURNED || now.today - one.day > now.rules[BAR]) return NO;
        return part == 0 ? one.appealDays(v) : one.appealSum(v);
    }

    public int reopen(int judgment) {
        if (!now.hasJudgment(judgment)) return BAD;
        Judgment one = now.judgments[judgment];
        if (!now.hasLaw() || one.step == TURNED || now.today - one.day > now.rules[AGAIN]) return NO;
        one.sum = now.sumFor(one.person, one.day, now.today);
        return one.sum;
    }

    public int pay(int judgment, int coins) {
        if (!now.hasJudgment(judgment) || !isWithin(coins, 1, MOST_COINS)) return BAD;
        Judgment one = now.judgments[judgment];
        if (one.step == TURNED) return NO;
        int taken = Math.min(coins, one.unpaidCoins());
        one.paid += taken;
        return coins - taken;
    }

    public int back(int judgment) {
        if (!now.hasJudgment(judgment)) return BAD;
        Judgment one = now.judgments[judgment];
        int over = one.paid - one.fine();
        if (over <= 0) return NO;
        long interest = (long) over * now.rules[RATE] * (now.today - one.day) / 36500;
        one.paid = one.fine();
        return over + (int) interest;
    }

    public int step(int judgment) {
        if (!now.hasJudgment(judgment)) return BAD;
        Judgment one = now.judgments[judgment];
        if (one.step == TURNED || one.unpaidCoins() == 0) return NO;
        if (now.today - one.stepDay < now.rules[GAP]) return NO;
        if (one.step + 1 == TURNED && !now.hasLaw()) return NO;
        one.step++;
        one.stepDay = now.today;
        if (one.step == TURNED) one.hours = now.hoursFor(one);
        return one.step;
    }

    public int work(int judgment, int hours) {
        if (!now.hasJudgment(judgment) || !isWithin(hours, 1, MOST_HOURS)) return BAD;
        Judgment one = now.judgments[judgment];
        if (one.step != TURNED || hours > one.hours) return NO;
        one.hours -= hours;
        return one.hours;
    }

    // ---- instalments

    public int level(int person) {
        if (!now.hasPerson(person)) return BAD;
        return plan.isFound(now, person) ? plan.least : NO;
    }

    public int month(int person, int m) {
        if (!now.hasPerson(person) || !isWithin(m, 0, MONTHS - 1)) return BAD;
        return plan.isFound(now, person) ? plan.pays[m] : NO;
    }

    public int room(int person, int m) {
        if (!now.hasPerson(person) || !isWithin(m, 0, MONTHS - 1)) return BAD;
        return now.roomOf(person, m);
    }

    public int tell(int v) {
        if (waits >= MOST_WAITING) return FULL;
        waiting[waits] = v;
        waits++;
        return waits;
    }

    public int check(int person) {
        int waited = waits;
        waits = 0;
        if (!now.hasPerson(person)) return BAD;
        return plan.isFound(now, person) ? plan.firstWrong(waiting, waited) : NO;
    }

    // ---- cases alike, slips

    public int alike(int one, int other) {
        if (!now.hasJudgment(one) || !now.hasJudgment(other) || one == other) return BAD;
        return oneIf(now.areAlike(one, other));
    }

    public int unlike() {
        int farthest = 0;
        int found = NONE;
        for (int lesser = 0; lesser < now.judgmentCount; lesser++) {
            for (int greater = lesser + 1; greater < now.judgmentCount; greater++) {
                int apart = Math.abs(now.judgments[lesser].days - now.judgments[greater].days);
                if (apart > farthest && now.areAlike(lesser, greater)) {
                    farthest = apart;
                    found = 100 * lesser + greater;
                }
            }
        }
        return found;
    }

    public int spread(int what) {
        if (!isWithin(what, 0, 1)) return BAD;
        int greatest = 0;
        int least = MOST_SHARE;
        for (int j = 0; j < now.judgmentCount; j++) {
            int share = now.shareOf(j, what == 0 ? now.judgments[j].fine() : now.flatOf(j));
            greatest = Math.max(greatest, share);
            least = Math.min(least, share);
        }
        return Math.max(0, greatest - least);
    }

    public int slip(int person, int sheet) {
        if (!now.hasPerson(person) || !isWithin(sheet, 0, SHEETS - 1)) return BAD;
        if (missing[sheet]) return NOTHING;
        // longs, as pay of a sheet's whole ints may grow beyond an int
        long soFar = 0;
        for (int i = 0; i < sizes[sheet]; i++) {
            int written = places[sheet][i];
            boolean isPay = i % 2 == 0;
            if (isPay ? written < 0 : written != soFar) return i;
            if (isPay) soFar += written;
        }
        if (sizes[sheet] < MOST_PLACES) return NONE;
        long away = Math.abs(soFar - 12L * now.valueOf(person, INCOME, now.today, now.today));
        return away > now.rules[SLACK] ? MOST_PLACES - 1 : NONE;
    }

    // ---- images, sheets

    public int keep() {
        image.become(now);
        kept = true;
        return now.today;
    }

    public int again() {
        if (!kept) return NO;
        now.become(image);
        return now.today;
    }

    public int sheet(int s, int n) {
        if (!isWithin(s, 0, SHEETS - 1) || n > MOST_PLACES) return BAD;
        if (n < 0) return SIZE;
        for (int i = 0; i < n; i++) places[s][i] = 0;
        sizes[s] = n;
        missing[s] = false;
        return n;
    }

    public int mark(int s, int place, int v) {
        if (!isWithin(s, 0, SHEETS - 1)) return BAD;
        if (missing[s]) return NOTHING;
        if (!isWithin(place, 0, sizes[s] - 1)) return INDEX;
        int was = places[s][place];
        places[s][place] = v;
        return was;
    }

    public int copy(int from, int place, int to, int at, int many) {
        if (!isWithin(from, 0, SHEETS - 1) || !isWithin(to, 0, SHEETS - 1)) return BAD;
        if (missing[from] || missing[to]) return NOTHING;
        if (!isWithin(place, 0, sizes[from]) || !isWithin(at, 0, sizes[to])) return INDEX;
        if (!isWithin(many, 0, Math.min(sizes[from] - place, sizes[to] - at))) return INDEX;
        System.arraycopy(places[from], place, places[to], at, many);
        return many;
    }

    public int count(int what) {
        switch (what) {
            case 0: return now.peopleCount;
            case 1: return now.factCount;
            case 2: return now.deedCount;
            case 3: return now.judgmentCount;
            case 4: return now.couples();
            case 5: return now.openDeeds();
            case 6: return waits;
            case 7: return reader.tape.length;
            case 8: return now.today;
            case 9: return now.allCustody();
            default: return BAD;
        }
    }

    private static boolean isWithin(int v, int least, int most) {
        return v >= least && v <= most;
    }

    private static int oneIf(boolean so) {
        return so ? 1 : 0;
    }

    /** The upper bound counts where the two cross. */
    private static int bounded(int v, int least, int most) {
        return Math.min(Math.max(v, least), most);
    }

    private static final class Person {
        static final int NOBODY = -1;

        int kind = 0;
        int other = NOBODY;
        int custody = 0;

        void begin(int ofKind) {
            kind = ofKind;
            other = NOBODY;
            custody = 0;
        }

        void become(Person from) {
            kind = from.kind;
            other = from.other;
            custody = from.custody;
        }

        boolean isCoupled() {
            return other != NOBODY;
        }

        boolean isOfKind(int asked) {
            return asked == 0 || asked == kind || asked == YOUNG && kind == STUDENT;
        }
    }

    private static final class Fact {
        int person = 0;
        int what = 0;
        int source = 0;
        int value = 0;
        int from = 0;
        int since = 0;

        void begin(int ofPerson, int ofWhat, int bySource, int ofValue, int fromDay) {
            person = ofPerson;
            what = ofWhat;
            source = bySource;
            value = ofValue;
            from = fromDay;
        }

        void become(Fact other) {
            begin(other.person, other.what, other.source, other.value, other.from);
            since = other.since;
        }

        boolean tells(int ofPerson, int ofWhat, int day, int asOf) {
            return person == ofPerson && what == ofWhat && since <= asOf && from <= day;
        }

        /** Whether this one, which came later than the other, counts instead of it. */
        boolean outdoes(Fact earlier) {
            return source == earlier.source ? from >= earlier.from : source > earlier.source;
        }
    }

    private static final class Deed {
        static final int IN_NONE = -1;

        int kind = 0;
        int person = 0;
        int day = 0;
        int weight = 1;
        int judgment = IN_NONE;

        void begin(int ofKind, int ofPerson, int onDay, int ofWeight) {
            kind = ofKind;
            person = ofPerson;
            day = onDay;
            weight = ofWeight;
            judgment = IN_NONE;
        }

        void become(Deed from) {
            begin(from.kind, from.person, from.day, from.weight);
            judgment = from.judgment;
        }

        boolean isOfKind(int asked) {
            return asked == 0 || asked == kind || asked == DRIVING && kind == DRUNK;
        }

        boolean isJudged() {
            return judgment != IN_NONE;
        }

        boolean isOpenOf(int someone) {
            return person == someone && !isJudged();
        }
    }

    private static final class Judgment {
        int person = 0;
        int day = 0;
        int days = 0;
        int sum = 0;
        int paid = 0;
        int step = 0;
        int stepDay = 0;
        int hours = 0;
        boolean daysAppealed = false;
        boolean sumAppealed = false;

        void begin(int ofPerson, int onDay) {
            person = ofPerson;
            day = onDay;
            days = 0;
            sum = 0;
            paid = 0;
            step = 0;
            stepDay = onDay;
            hours = 0;
            daysAppealed = false;
            sumAppealed = false;
        }

        void become(Judgment from) {
            person = from.person;
            day = from.day;
            days = from.days;
            sum = from.sum;
            paid = from.paid;
            step = from.step;
            stepDay = from.stepDay;
            hours = from.hours;
            daysAppealed = from.daysAppealed;
            sumAppealed = from.sumAppealed;
        }

        int fine() {
            return days * sum;
        }

        int unpaidCoins() {
            return Math.max(0, fine() - paid);
        }

        int unpaidDays() {
            return sum == 0 ? 0 : (unpaidCoins() + sum - 1) / sum;
        }

        int appealDays(int v) {
            int was = days;
            days = v;
            daysAppealed = true;
            return was;
        }

        int appealSum(int v) {
            int was = sum;
            sum = v;
            sumAppealed = true;
            return was;
        }
    }

    /** All that an image keeps. */
    private static final class State {
        int today = 0;
        int peopleCount = 0;
        int factCount = 0;
        int deedCount = 0;
        int judgmentCount = 0;
        final Person[] people = new Person[MOST_PEOPLE];
        final Fact[] facts = new Fact[MOST_FACTS];
        final Deed[] deeds = new Deed[MOST_DEEDS];
        final Judgment[] judgments = new Judgment[MOST_JUDGMENTS];
        final int[] rules = RULE_AT_FIRST.clone();
        final int[] flats = new int[KINDS];
        final Law law = new Law();
        final Reckoner reckoner = new Reckoner();

        State() {
            for (int i = 0; i < MOST_PEOPLE; i++) people[i] = new Person();
            for (int i = 0; i < MOST_FACTS; i++) facts[i] = new Fact();
            for (int i = 0; i < MOST_DEEDS; i++) deeds[i] = new Deed();
            for (int i = 0; i < MOST_JUDGMENTS; i++) judgments[i] = new Judgment();
        }

        void become(State from) {
            today = from.today;
            peopleCount = from.peopleCount;
            factCount = from.factCount;
            deedCount = from.deedCount;
            judgmentCount = from.judgmentCount;
            for (int i = 0; i < peopleCount; i++) people[i].become(from.people[i]);
            for (int i = 0; i < factCount; i++) facts[i].become(from.facts[i]);
            for (int i = 0; i < deedCount; i++) deeds[i].become(from.deeds[i]);
            for (int i = 0; i < judgmentCount; i++) judgments[i].become(from.judgments[i]);
            System.arraycopy(from.rules, 0, rules, 0, RULES);
            System.arraycopy(from.flats, 0, flats, 0, KINDS);
            law.become(from.law);
        }

        boolean hasPerson(int number) {
            return isWithin(number, 0, peopleCount - 1);
        }

        boolean hasDeed(int number) {
            return isWithin(number, 0, deedCount - 1);
        }

        boolean hasJudgment(int number) {
            return isWithin(number, 0, judgmentCount - 1);
        }

        boolean hasLaw() {
            return law.parts > 0;
        }

        int valueOf(int person, int what, int day, int asOf) {
            int best = -1;
            for (int i = 0; i < factCount; i++) {
                if (!facts[i].tells(person, what, day, asOf)) continue;
                if (best < 0 || facts[i].outdoes(facts[best])) best = i;
            }
            if (best >= 0) return facts[best].value;
            return what == INCOME ? rules[GUESS] : 0;
        }

        int earnings(int person, int day, int asOf) {
            int alone = earningsAlone(person, day, asOf);
            int other = people[person].other;
            return hasPerson(other) ? (alone + earningsAlone(other, day, asOf)) / 2 : alone;
        }

        int earningsAlone(int person, int day, int asOf) {
            int income = valueOf(person, INCOME, day, asOf);
            if (!people[person].isOfKind(OWNER)) return income;
            return Math.max(income, valueOf(person, WEALTH, day, asOf) / 24);
        }

        int couples() {
            int coupled = 0;
            for (int i = 0; i < peopleCount; i++) coupled += oneIf(people[i].isCoupled());
            return coupled / 2;
        }

        int allCustody() {
            int all = 0;
            for (int i = 0; i < peopleCount; i++) all += people[i].custody;
            return all;
        }

        int openDeeds() {
            int open = 0;
            for (int i = 0; i < deedCount; i++) open += oneIf(!deeds[i].isJudged());
            return open;
        }

        boolean hasOpenDeed(int person) {
            for (int i = 0; i < deedCount; i++) {
                if (deeds[i].isOpenOf(person)) return true;
            }
            return false;
        }

        void takeOpenDeeds(int person, int judgment) {
            for (int i = 0; i < deedCount; i++) {
                if (deeds[i].isOpenOf(person)) deeds[i].judgment = judgment;
            }
        }

        int pastOf(Deed deed) {
            int past = 0;
            for (int j = 0; j < judgmentCount; j++) {
                int ahead = deed.day - judgments[j].day;
                if (judgments[j].person == deed.person && isWithin(ahead, 1, rules[YEARS])) past++;
            }
            return past;
        }

        int daysFor(Deed deed) {
            reckoner.set('g', deed.weight);
            reckoner.set('p', pastOf(deed));
            reckoner.set('a', oneIf(deed.isOfKind(DRIVING)));
            reckoner.set('k', deed.kind);
            reckoner.set('y', youth(deed.person));
            return bounded(reckoner.workOut(law, OF_DAYS), rules[LEAST], rules[MOST]);
        }

        int sumFor(int person, int day, int asOf) {
            reckoner.set('i', earnings(person, day, asOf));
            reckoner.set('n', valueOf(person, NEEDY, day, asOf));
            reckoner.set('w', valueOf(person, WEALTH, day, asOf));
            reckoner.set('d', valueOf(person, DEBT, day, asOf));
            reckoner.set('s', oneIf(people[person].isOfKind(STUDENT)));
            reckoner.set('y', youth(person));
            return bounded(reckoner.workOut(law, OF_SUM), rules[FLOOR], rules[ROOF]);
        }

        int hoursFor(Judgment judgment) {
            reckoner.set('u', judgment.unpaidDays());
            reckoner.set('y', youth(judgment.person));
            return bounded(reckoner.workOut(law, OF_HOURS), 0, MOST_HOURS);
        }

        int youth(int person) {
            return oneIf(people[person].isOfKind(YOUNG));
        }

        int joinedDays(int person) {
            int greatest = 0;
            int shares = 0;
            for (int i = 0; i < deedCount; i++) {
                if (!deeds[i].isOpenOf(person)) continue;
                int each = daysFor(deeds[i]);
                greatest = Math.max(greatest, each);
                shares += joinedShare(each);
            }
            return Math.min(greatest + shares - joinedShare(greatest), rules[TOP]);
        }

        int joinedShare(int each) {
            return each * rules[JOIN] / 100;
        }

        int deedsIn(int judgment) {
            int many = 0;
            for (int i = 0; i < deedCount; i++) many += oneIf(deeds[i].judgment == judgment);
            return many;
        }

        int flatOf(int judgment) {
            int coins = 0;
            for (int i = 0; i < deedCount; i++) {
                if (deeds[i].judgment == judgment) coins += flats[deeds[i].kind];
            }
            return coins;
        }

        int shareOf(int judgment, int coins) {
            Judgment one = judgments[judgment];
            int earned = Math.max(1, earnings(one.person, one.day, one.day));
            return (int) Math.min(coins * 1000L / earned, MOST_SHARE);
        }

        boolean areAlike(int one, int other) {
            if (youth(judgments[one].person) != youth(judgments[other].person)) return false;
            int weights = 0;
            for (int kind = 0; kind < KINDS; kind++) {
                int more = 0;
                for (int i = 0; i < deedCount; i++) {
                    if (deeds[i].kind != kind) continue;
                    int side = oneIf(deeds[i].judgment == one) - oneIf(deeds[i].judgment == other);
                    more += side;
                    weights += side * deeds[i].weight;
                }
                if (more != 0) return false;
            }
            return Math.abs(weights) <= 5;
        }

        int roomOf(int person, int m) {
            int day = today + MONTH_DAYS * m;
            int needs = rules[NEED] * (1 + valueOf(person, NEEDY, day, today));
            int left = earnings(person, day, today) - needs - valueOf(person, DEBT, day, today);
            return Math.max(0, left) * rules[SHARE] / 100;
        }
    }

    /** Three rows of postfix: what is 0 or more is a number, else it is a letter or a sign below 0. */
    private static final class Law {
        final int[] code = new int[MOST_BYTES];
        final int[] ends = new int[3];
        int size = 0;
        int parts = 0;

        void become(Law from) {
            System.arraycopy(from.code, 0, code, 0, MOST_BYTES);
            System.arraycopy(from.ends, 0, ends, 0, 3);
            size = from.size;
            parts = from.parts;
        }

        void write(int item) {
            if (size >= MOST_BYTES) return;
            code[size] = item;
            size++;
        }
    }

    /** Works out what a row of a law gives. */
    private static final class Reckoner {
        final int[] named = new int[26];
        final int[] stack = new int[MOST_BYTES];

        void set(char name, int v) {
            if (Tape.isLetter(name)) named[name - 'a'] = v;
        }

        int workOut(Law law, int section) {
            int top = -1;
            int begin = section == OF_DAYS ? 0 : law.ends[section - 1];
            for (int i = begin; i < law.ends[section]; i++) {
                int item = law.code[i];
                if (item >= 0 || Tape.isLetter(-item)) {
                    if (top >= MOST_BYTES - 1) return 0;
                    top++;
                    stack[top] = item >= 0 ? item : named[-item - 'a'];
                } else if (item == -'!' && top >= 0) {
                    stack[top] = oneIf(stack[top] == 0);
                } else if (top >= 1) {
                    top--;
                    stack[top] = join(-item, stack[top], stack[top + 1]);
                }
            }
            return top >= 0 ? stack[top] : 0;
        }

        static int join(int sign, int left, int right) {
            switch (sign) {
                case '|': return oneIf(left != 0 || right != 0);
                case '&': return oneIf(left != 0 && right != 0);
                case '<': return oneIf(left < right);
                case '=': return oneIf(left == right);
                case '>': return oneIf(left > right);
                case '+': return left + right;
                case '-': return left - right;
                case '*': return left * right;
                default: return right == 0 ? 0 : left / right;
            }
        }
    }

    /** THE TAPE, and the word or sign on it that is at hand: from start up to end. */
    private static final class Tape {
        final int[] bytes = new int[MOST_BYTES];
        int length = 0;
        int start = 0;
        int end = 0;

        void addFour(int v) {
            if (length + 4 > MOST_BYTES) return;
            for (int i = 0; i < 4; i++) bytes[length + i] = (v >>> (24 - 8 * i)) & 255;
            length += 4;
        }

        void rewind() {
            start = 0;
            end = 0;
        }

        void goOn() {
            start = end;
            while (start < length && bytes[start] == ' ') start++;
            end = start;
            if (isAtEnd()) return;
            end++;
            while (end < length && isOneWord(bytes[start], bytes[end])) end++;
        }

        boolean isAtEnd() {
            return start >= length;
        }

        int first() {
            return isAtEnd() ? ' ' : bytes[start];
        }

        boolean isWord() {
            return isLetter(first()) || isDigit(first());
        }

        /** Whether a word stands right behind another one. */
        boolean isGlued() {
            if (start == 0 || !isWord()) return false;
            int ahead = bytes[start - 1];
            return isLetter(ahead) || isDigit(ahead);
        }

        boolean says(String word) {
            if (end - start != word.length()) return false;
            for (int i = 0; i < word.length(); i++) {
                if (bytes[start + i] != word.charAt(i)) return false;
            }
            return true;
        }

        int number() {
            int v = 0;
            for (int i = start; i < end; i++) v = 10 * v + bytes[i] - '0';
            return v;
        }

        static boolean isOneWord(int one, int next) {
            return isLetter(one) && isLetter(next) || isDigit(one) && isDigit(next);
        }

        static boolean isLetter(int b) {
            return b >= 'a' && b <= 'z';
        }

        static boolean isDigit(int b) {
            return b >= '0' && b <= '9';
        }
    }

    /** Turns THE TAPE into a law: a sign is held until what binds as tightly or tighter is written. */
    private static final class Reader {
        static final int NO_FAULT = -1;
        static final int MOST_OPEN = 8, MOST_DIGITS = 5;
        static final int AHEAD_OF_ALL = -1;
        static final int OR = 1, TEST = 3;

        final Tape tape = new Tape();
        final Law draft = new Law();
        final int[] held = new int[MOST_BYTES];
        int holds = 0;
        int parens = 0;
        int nots = 0;
        int section = AHEAD_OF_ALL;
        boolean wantsPart = false;

        /** The place of the fault; without one the draft is the law. */
        int findFault() {
            begin();
            for (int i = 0; i <= MOST_BYTES; i++) {
                tape.goOn();
                if (tape.isAtEnd()) break;
                if (tape.isGlued() || !takes()) return tape.start;
            }
            if (section != OF_HOURS || wantsPart || parens > 0) return tape.length;
            endSection();
            return NO_FAULT;
        }

        void begin() {
            tape.rewind();
            draft.size = 0;
            draft.parts = 0;
            holds = 0;
            parens = 0;
            nots = 0;
            section = AHEAD_OF_ALL;
            wantsPart = false;
        }

        boolean takes() {
            if (wantsPart) return takesPart(tape.first());
            if (tape.isWord()) return takesHeading();
            return section != AHEAD_OF_ALL && takesSign(tape.first());
        }

        boolean takesHeading() {
            if (parens > 0 || section >= OF_HOURS || !tape.says(heading(section + 1))) return false;
            if (section != AHEAD_OF_ALL) endSection();
            section++;
            wantsPart = true;
            return true;
        }

        void endSection() {
            release(OR);
            draft.ends[section] = draft.size;
        }

        boolean takesPart(int first) {
            if (first == '(') {
                if (parens >= MOST_OPEN) return false;
                parens++;
                hold(first);
                return true;
            }
            if (first == '!') {
                if (nots >= MOST_OPEN) return false;
                nots++;
                hold(first);
                return true;
            }
            return takesNumberOrName(first);
        }

        boolean takesNumberOrName(int first) {
            int size = tape.end - tape.start;
            if (Tape.isDigit(first) && size <= MOST_DIGITS) {
                draft.write(tape.number());
            } else if (size == 1 && namesOf(section).indexOf((char) first) >= 0) {
                draft.write(-first);
            } else {
                return false;
            }
            draft.parts++;
            endPart();
            return true;
        }

        void endPart() {
            for (int i = 0; i < MOST_OPEN && topHeld() == '!'; i++) {
                draft.write(-'!');
                holds--;
                nots--;
            }
            wantsPart = false;
        }

        boolean takesSign(int sign) {
            if (sign == ')') return closes();
            int tightness = tightnessOf(sign);
            if (tightness == 0) return false;
            if (tightness == TEST) {
                release(TEST + 1);
                if (tightnessOf(topHeld()) == TEST) return false;
            }
            release(tightness);
            hold(sign);
            wantsPart = true;
            return true;
        }

        boolean closes() {
            if (parens == 0) return false;
            release(OR);
            if (topHeld() == '(') holds--;
            parens--;
            endPart();
            return true;
        }

        void release(int tightness) {
            for (int i = 0; i < MOST_BYTES && tightnessOf(topHeld()) >= tightness; i++) {
                draft.write(-topHeld());
                holds--;
            }
        }

        void hold(int sign) {
            if (holds >= MOST_BYTES) return;
            held[holds] = sign;
            holds++;
        }

        int topHeld() {
            return holds > 0 ? held[holds - 1] : 0;
        }

        static int tightnessOf(int sign) {
            switch (sign) {
                case '|': return OR;
                case '&': return 2;
                case '<': case '=': case '>': return TEST;
                case '+': case '-': return 4;
                case '*': case '/': return 5;
                default: return 0;
            }
        }

        static String heading(int section) {
            if (section == OF_DAYS) return "days";
            return section == OF_SUM ? "sum" : "hours";
        }

        static String namesOf(int section) {
            if (section == OF_DAYS) return "gpaky";
            return section == OF_SUM ? "inwdsy" : "uy";
        }
    }

    /** Instalments of a person, at the least level. */
    private static final class Plan {
        final int[] rooms = new int[MONTHS];
        final int[] pays = new int[MONTHS];
        int least = 0;
        int rows = 0;

        boolean isFound(State state, int person) {
            int owed = owedIn(state, person);
            int most = 0;
            for (int m = 0; m < MONTHS; m++) {
                // where nothing is owed no month needs its room
                rooms[m] = owed == 0 ? 0 : state.roomOf(person, m);
                most = Math.max(most, rooms[m]);
            }
            if (!holds(state, person, most)) return false;
            least = leastUpTo(most, state, person);
            setPays(owed);
            return true;
        }

        int leastUpTo(int most, State state, int person) {
            int below = -1;
            int above = most;
            for (int i = 0; i < 32 && above - below > 1; i++) {
                int middle = (below + above) / 2;
                if (holds(state, person, middle)) above = middle;
                else below = middle;
            }
            return above;
        }

        static boolean isOwing(State state, int judgment, int person) {
            Judgment one = state.judgments[judgment];
            return one.person == person && one.step != TURNED && one.unpaidCoins() > 0;
        }

        static int owedIn(State state, int person) {
            int owed = 0;
            for (int j = 0; j < state.judgmentCount; j++) {
                if (isOwing(state, j, person)) owed += state.judgments[j].unpaidCoins();
            }
            return owed;
        }

        /** Judgments are made day after day, so that their numbers are in the order of their due days. */
        boolean holds(State state, int person, int level) {
            int owed = 0;
            int paid = 0;
            int m = 0;
            for (int j = 0; j < state.judgmentCount; j++) {
                if (!isOwing(state, j, person)) continue;
                owed += state.judgments[j].unpaidCoins();
                int due = state.judgments[j].day + state.rules[TERM];
                while (m < MONTHS && state.today + MONTH_DAYS * m <= due) {
                    paid += Math.min(rooms[m], level);
                    m++;
                }
                if (paid < owed) return false;
            }
            return true;
        }

        void setPays(int owed) {
            int left = owed;
            rows = 0;
            for (int m = 0; m < MONTHS; m++) {
                pays[m] = Math.min(left, Math.min(rooms[m], least));
                left -= pays[m];
                if (pays[m] > 0) rows = m + 1;
            }
        }

        /** 0, or 1 and how many numbers stand right ahead of the first that is wrong. */
        int firstWrong(int[] numbers, int many) {
            int longer = Math.max(many, rows);
            for (int i = 0; i < longer; i++) {
                if (i >= many || i >= rows || numbers[i] != pays[i]) return 1 + i;
            }
            return 0;
        }
    }
}

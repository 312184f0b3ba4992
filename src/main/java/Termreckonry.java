import java.util.NoSuchElementException;

/**
 * The time that each prisoner owes. What is told is kept as it was told; every answer is reckoned
 * from all of it anew, since a later call may change what has been from the beginning.
 */
public final class Termreckonry {
    private static final int DAYS = 20000;
    private static final int LAST_DAY = DAYS - 1;
    /** A day later than every other one that can be reckoned: no beginning, no release, no end. */
    private static final int NEVER = 1000000;
    private static final int UNTOLD = -1;

    private static final int MAX_LAWS = 8;
    private static final int MAX_PERSONS = 6;
    private static final int MAX_WARRANTS = 24;
    private static final int MAX_ADDED = 30;
    private static final int MAX_RECALLS = 20;

    private static final int MAX_YEARS = 40;
    private static final int MAX_MONTHS = 11;
    private static final int MAX_TERM_DAYS = 9999;
    private static final int MAX_COUNTED = 999;
    private static final int MAX_ADDED_DAYS = 200;
    private static final int RECALL_DAYS = 28;
    private static final int EIGHTHS_WITHOUT_LAW = 4;

    private static final int CHECK_STEP = 97;
    private static final int LAST_CHECK = 3880;

    private final Law[] laws = new Law[MAX_LAWS];
    private final Person[] persons = new Person[MAX_PERSONS];
    private final Warrant[] warrants = new Warrant[MAX_WARRANTS];
    private final Added[] additions = new Added[MAX_ADDED];
    /** The days in prison or on recall, found anew by each call that needs them. */
    private final Days due = new Days();
    private int lawCount;
    private int personCount;
    private int warrantCount;
    private int additionCount;
    private int recallCount;

    public Termreckonry() {
    }

    // ---- calendar and laws

    public int dayOf(int year, int month, int date) throws IllegalArgumentException {
        if (year < Calendar.FIRST_YEAR || year > Calendar.LAST_YEAR) {
            throw new IllegalArgumentException("no such year");
        }
        if (date < 1 || date > Calendar.daysOfMonth(Calendar.isLeap(year), month)) {
            throw new IllegalArgumentException("no such date");
        }
        int day = Calendar.numberOf(year, month, date);
        requireDay(day);
        return day;
    }

    public int dateOf(int day) throws IllegalArgumentException {
        requireDay(day);
        return Calendar.dateAt(day);
    }

    public int length(int day, int years, int months, int days) throws IllegalArgumentException {
        requireDay(day);
        requireTerm(years, months, days);
        return new Term(years, months, days).spanFrom(day);
    }

    public int law(char by, int from, int eighths, boolean needsBoard)
            throws IllegalArgumentException, IllegalStateException {
        if (by != 'o' && by != 'p') {
            throw new IllegalArgumentException("no such way");
        }
        requireDay(from);
        requireRange(eighths, 1, 8);
        if (lawCount >= laws.length) {
            throw new IllegalStateException("no more laws");
        }
        Law law = new Law(lawCount, by == 'o', from, eighths, needsBoard);
        laws[lawCount] = law;
        lawCount++;
        for (Warrant w : warrants) {
            if (w != null) {
                w.apply(law);
            }
        }
        return law.number;
    }

    public int lawOf(int warrant)
            throws IndexOutOfBoundsException, UnsupportedOperationException, NoSuchElementException {
        Warrant w = knownWarrant(warrant);
        if (!w.isLikeFixed()) {
            throw new UnsupportedOperationException("no law for this kind");
        }
        if (w.law == null) {
            throw new NoSuchElementException("no law counts");
        }
        return w.law.number;
    }

    // ---- persons and warrants

    public int person() throws IllegalStateException {
        if (personCount >= persons.length) {
            throw new IllegalStateException("no more persons");
        }
        persons[personCount] = new Person();
        personCount++;
        return personCount - 1;
    }

    public int warrant(int person, char kind, int offence, int passed, int years, int months, int days,
            int behind) throws IndexOutOfBoundsException, IllegalArgumentException,
            UnsupportedOperationException, IllegalStateException {
        Person owner = knownPerson(person);
        Warrant ahead = behind == -1 ? null : knownWarrant(behind);
        requireKind(kind);
        requireDay(offence);
        requireRange(passed, offence, LAST_DAY);
        requireSomeTerm(years, months, days);
        if (ahead != null && ahead.owner != owner) {
            throw new UnsupportedOperationException("another person's warrant");
        }
        if (warrantCount >= warrants.length) {
            throw new IllegalStateException("no more warrants");
        }
        Term term = new Term(years, months, days);
        Warrant w = new Warrant(warrantCount, owner, kind, offence, passed, ahead, term);
        for (Law law : laws) {
            if (law != null) {
                w.apply(law);
            }
        }
        owner.takeWarrant(w);
        warrants[warrantCount] = w;
        warrantCount++;
        return w.number;
    }

    public int count(int warrant, int days, boolean underTag)
            throws IndexOutOfBoundsException, IllegalArgumentException {
        Warrant w = knownWarrant(warrant);
        requireRange(days, 1, MAX_COUNTED);
        if (underTag) {
            w.countedUnderTag += days;
        } else {
            w.countedWhole += days;
        }
        return w.countedDays();
    }

    public int activate(int warrant, int day)
            throws IndexOutOfBoundsException, IllegalArgumentException, UnsupportedOperationException {
        Warrant w = knownWarrant(warrant);
        requireRange(day, w.passed, LAST_DAY);
        if (!w.waits()) {
            throw new UnsupportedOperationException("not suspended, or it runs");
        }
        w.runsFrom = day;
        return w.owner.waitingWarrants();
    }

    public int vary(int warrant, int years, int months, int days)
            throws IndexOutOfBoundsException, IllegalArgumentException {
        Warrant w = knownWarrant(warrant);
        requireSomeTerm(years, months, days);
        w.term = new Term(years, months, days);
        return w.term.spanFrom(w.passed);
    }

    public boolean quash(int warrant) throws IndexOutOfBoundsException {
        Warrant w = knownWarrant(warrant);
        boolean stood = !w.quashed;
        w.quashed = true;
        return stood;
    }

    public int approve(int warrant, int day) throws IndexOutOfBoundsException, IllegalArgumentException {
        Warrant w = knownWarrant(warrant);
        requireDay(day);
        int before = w.yesDay;
        w.yesDay = day;
        return before;
    }

    public int add(int person, int day, int days)
            throws IndexOutOfBoundsException, IllegalArgumentException, IllegalStateException {
        Person p = knownPerson(person);
        requireDay(day);
        requireRange(days, 1, MAX_ADDED_DAYS);
        if (additionCount >= additions.length) {
            throw new IllegalStateException("no more added days");
        }
        Added a = new Added(day, days);
        p.takeAdded(a);
        additions[additionCount] = a;
        additionCount++;
        return additionCount - 1;
    }

    public int giveBack(int added, int days) throws IndexOutOfBoundsException, IllegalArgumentException {
        Added a = knownAdded(added);
        requireRange(days, 1, a.left);
        a.left -= days;
        return a.left;
    }

    public int atLarge(int person, int from, int to)
            throws IndexOutOfBoundsException, IllegalArgumentException {
        Person p = knownPerson(person);
        requireSpan(from, to);
        p.daysAtLarge.put(from, to);
        return p.daysAtLarge.within(0, DAYS);
    }

    public int recall(int person, int day, char kind) throws IndexOutOfBoundsException,
            IllegalArgumentException, UnsupportedOperationException, IllegalStateException {
        Person p = knownPerson(person);
        requireDay(day);
        if (kind != 'f' && kind != 's') {
            throw new IllegalArgumentException("no such kind of recall");
        }
        p.reckon();
        if (p.stateAt(day) != 'l') {
            throw new UnsupportedOperationException("not on licence");
        }
        if (recallCount >= MAX_RECALLS) {
            throw new IllegalStateException("no more recalls");
        }
        recallCount++;
        return p.takeRecall(new Recall(p, day, kind == 'f', warrantCount));
    }

    public int letGo(int person, int day)
            throws IndexOutOfBoundsException, IllegalArgumentException, UnsupportedOperationException {
        Person p = knownPerson(person);
        requireDay(day);
        p.reckon();
        Recall r = p.recallAt(day);
        if (r == null) {
            throw new UnsupportedOperationException("no recall goes on");
        }
        r.letGoDay = day;
        return r.day;
    }

    // ---- what follows

    public int begins(int warrant) throws IndexOutOfBoundsException, NoSuchElementException {
        return begunWarrant(warrant).begin;
    }

    public int needed(int warrant) throws IndexOutOfBoundsException, NoSuchElementException {
        return begunWarrant(warrant).neededDays;
    }

    public int release(int warrant) throws IndexOutOfBoundsException, NoSuchElementException {
        Warrant w = begunWarrant(warrant);
        if (w.releaseDay == NEVER) {
            throw new NoSuchElementException("no release");
        }
        return w.releaseDay;
    }

    public int end(int warrant) throws IndexOutOfBoundsException, NoSuchElementException {
        Warrant w = begunWarrant(warrant);
        if (w.licenceEnd == NEVER || w.licenceEnd <= w.releaseDay) {
            throw new NoSuchElementException("no licence, or one for ever");
        }
        return w.licenceEnd;
    }

    public char stateOn(int person, int day) throws IndexOutOfBoundsException, IllegalArgumentException {
        Person p = knownPerson(person);
        requireDay(day);
        p.reckon();
        return p.stateAt(day);
    }

    public char byClerk(int person, int day) throws IndexOutOfBoundsException, IllegalArgumentException {
        Person p = knownPerson(person);
        requireDay(day);
        return Clerk.stateAfterDays(p, day);
    }

    public int keeper(int person, int day)
            throws IndexOutOfBoundsException, IllegalArgumentException, NoSuchElementException {
        Person p = knownPerson(person);
        requireDay(day);
        p.reckon();
        Warrant w = p.keeperAt(day);
        if (w == null) {
            throw new NoSuchElementException("no warrant keeps");
        }
        return w.number;
    }

    public int held(int person, int from, int to) throws IndexOutOfBoundsException, IllegalArgumentException {
        Person p = knownPerson(person);
        requireSpan(from, to);
        p.daysHeld.put(from, to);
        return p.daysHeld.within(0, DAYS);
    }

    public int tooLong(int person, int before) throws IndexOutOfBoundsException, IllegalArgumentException {
        Person p = knownPerson(person);
        requireRange(before, 0, DAYS);
        p.reckon();
        p.putDue(due);
        return p.daysHeld.outside(due, before);
    }

    public int tooShort(int person, int before) throws IndexOutOfBoundsException, IllegalArgumentException {
        Person p = knownPerson(person);
        requireRange(before, 0, DAYS);
        p.reckon();
        p.putDue(due);
        due.remove(p.daysAtLarge);
        return due.outside(p.daysHeld, before);
    }

    public int warrants() {
        return warrantCount;
    }

    public long owed() {
        reckonAll();
        return sumNeeded();
    }

    public float prisonShare(int day) throws IllegalArgumentException, ArithmeticException {
        requireDay(day);
        if (personCount == 0) {
            throw new ArithmeticException("no persons");
        }
        reckonAll();
        int inPrison = 0;
        for (Person p : persons) {
            if (p != null && p.stateAt(day) == 'p') {
                inPrison++;
            }
        }
        return (float) inPrison / (float) personCount;
    }

    public double meanNeeded() throws ArithmeticException {
        reckonAll();
        int begun = 0;
        for (Warrant w : warrants) {
            if (w != null && w.begin != NEVER) {
                begun++;
            }
        }
        if (begun == 0) {
            throw new ArithmeticException("no warrant has begun");
        }
        return (double) sumNeeded() / (double) begun;
    }

    public boolean isTrue() {
        for (Person p : persons) {
            if (p != null && !Clerk.agrees(p)) {
                return false;
            }
        }
        return true;
    }

    // ---- what is looked up and tested for the calls

    private Person knownPerson(int number) {
        Person p = number >= 0 && number < persons.length ? persons[number] : null;
        if (p == null) {
            throw new IndexOutOfBoundsException("no such person");
        }
        return p;
    }

    private Warrant knownWarrant(int number) {
        Warrant w = number >= 0 && number < warrants.length ? warrants[number] : null;
        if (w == null) {
            throw new IndexOutOfBoundsException("no such warrant");
        }
        return w;
    }

    private Added knownAdded(int number) {
        Added a = number >= 0 && number < additions.length ? additions[number] : null;
        if (a == null) {
            throw new IndexOutOfBoundsException("no such added days");
        }
        return a;
    }

    private Warrant begunWarrant(int number) {
        Warrant w = knownWarrant(number);
        w.owner.reckon();
        if (w.begin == NEVER) {
            throw new NoSuchElementException("it counts for nothing, or never begins");
        }
        return w;
    }

    /** To be called when all is reckoned. */
    private long sumNeeded() {
        long sum = 0;
        for (Warrant w : warrants) {
            if (w != null && w.begin != NEVER) {
                sum += w.neededDays;
            }
        }
        return sum;
    }

    private void reckonAll() {
        for (Person p : persons) {
            if (p != null) {
                p.reckon();
            }
        }
    }

    private static void requireRange(int number, int least, int most) {
        if (number < least || number > most) {
            throw new IllegalArgumentException("a number is out of range");
        }
    }

    private static void requireDay(int day) {
        requireRange(day, 0, LAST_DAY);
    }

    private static void requireSpan(int from, int to) {
        requireDay(from);
        requireRange(to, from + 1, DAYS);
    }

    private static void requireTerm(int years, int months, int days) {
        requireRange(years, 0, MAX_YEARS);
        requireRange(months, 0, MAX_MONTHS);
        requireRange(days, 0, MAX_TERM_DAYS);
    }

    private static void requireSomeTerm(int years, int months, int days) {
        requireTerm(years, months, days);
        if (years == 0 && months == 0 && days == 0) {
            throw new IllegalArgumentException("the term is nothing");
        }
    }

    private static void requireKind(char kind) {
        if (kind != 'f' && kind != 'l' && kind != 'd' && kind != 's') {
            throw new IllegalArgumentException("no such kind of warrant");
        }
    }

    /** The calendar from the first of January 2000 on, which is the day 0. */
    private static final class Calendar {
        private static final int FIRST_YEAR = 2000;
        private static final int LAST_YEAR = 2054;
        private static final int MONTHS = 12;
        private static final int FEBRUARY = 2;
        private static final int[] MONTH_DAYS = {31, 28, 31, 30, 31, 30, 31, 31, 30, 31, 30, 31};

        static boolean isLeap(int year) {
            return year % 4 == 0 && year % 100 != 0 || year % 400 == 0;
        }

        /** 0 if there is no such month, so that it has no date. */
        static int daysOfMonth(boolean inLeapYear, int month) {
            if (month < 1 || month > MONTH_DAYS.length) {
                return 0;
            }
            return month == FEBRUARY && inLeapYear ? 29 : MONTH_DAYS[month - 1];
        }

        static int numberOf(int year, int month, int date) {
            int past = year - FIRST_YEAR;
            // the past years that have 366 days; the first of them was 2000 itself
            int leaps = (past + 3) / 4 - (past + 99) / 100 + (past + 399) / 400;
            int day = 365 * past + leaps + date - 1;
            boolean leap = isLeap(year);
            for (int m = 1; m < month && m <= MONTHS; m++) {
                day += daysOfMonth(leap, m);
            }
            return day;
        }

        static int dateAt(int day) {
            int left = day;
            int year = FIRST_YEAR;
            boolean leap = isLeap(year);
            while (year < LAST_YEAR && left >= (leap ? 366 : 365)) {
                left -= leap ? 366 : 365;
                year++;
                leap = isLeap(year);
            }
            int month = 1;
            while (month < MONTHS && left >= daysOfMonth(leap, month)) {
                left -= daysOfMonth(leap, month);
                month++;
            }
            return 10000 * year + 100 * month + left + 1;
        }
    }

    /** A term of years, months and days. */
    private static final class Term {
        private final int years;
        private final int months;
        private final int days;

        Term(int years, int months, int days) {
            this.years = years;
            this.months = months;
            this.days = days;
        }

        int spanFrom(int day) {
            int date = Calendar.dateAt(day);
            int monthsOn = date / 100 % 100 - 1 + months;
            int year = date / 10000 + years + monthsOn / Calendar.MONTHS;
            int month = monthsOn % Calendar.MONTHS + 1;
            int dateThere = Math.min(date % 100, Calendar.daysOfMonth(Calendar.isLeap(year), month));
            return Calendar.numberOf(year, month, dateThere) + days - day;
        }
    }

    /** A set of days, one bit for each. */
    private static final class Days {
        private static final int WORD_BITS = 64;
        private final long[] words = new long[(DAYS + WORD_BITS - 1) / WORD_BITS];

        void clear() {
            for (int i = 0; i < words.length; i++) {
                words[i] = 0L;
            }
        }

        void put(int from, int to) {
            int last = Math.min(to, DAYS);
            for (int i = Math.max(from, 0) / WORD_BITS; i < words.length && i * WORD_BITS < last; i++) {
                words[i] |= bitsOf(i, from, last);
            }
        }

        void remove(Days others) {
            for (int i = 0; i < words.length && i < others.words.length; i++) {
                words[i] &= ~others.words[i];
            }
        }

        boolean has(int day) {
            int i = day / WORD_BITS;
            return day >= 0 && i < words.length && (words[i] >>> day % WORD_BITS & 1L) != 0L;
        }

        int within(int from, int to) {
            int sum = 0;
            for (int i = Math.max(from, 0) / WORD_BITS; i < words.length && i * WORD_BITS < to; i++) {
                sum += Long.bitCount(words[i] & bitsOf(i, from, to));
            }
            return sum;
        }

        /** How many of these days, earlier than the one told, are not among the others. */
        int outside(Days others, int before) {
            int sum = 0;
            for (int i = 0; i < words.length && i < others.words.length; i++) {
                sum += Long.bitCount(words[i] & ~others.words[i] & bitsOf(i, 0, before));
            }
            return sum;
        }

        /** The first day ahead of which, from the one told on, so many days are not in this set. */
        int dayBehind(int from, int daysOutside) {
            if (daysOutside <= 0) {
                return from;
            }
            int left = daysOutside;
            int first = Math.max(from, 0) / WORD_BITS;
            for (int i = first; i < words.length; i++) {
                long free = i == first ? ~words[i] & -1L << from % WORD_BITS : ~words[i];
                int here = Long.bitCount(free);
                if (here >= left) {
                    return i * WORD_BITS + bitBehind(free, left);
                }
                left -= here;
            }
            return NEVER;
        }

        private static int bitBehind(long bits, int some) {
            int left = some;
            for (int bit = 0; bit < WORD_BITS; bit++) {
                if ((bits >>> bit & 1L) != 0L) {
                    left--;
                }
                if (left <= 0) {
                    return bit + 1;
                }
            }
            return WORD_BITS;
        }

        private static long bitsOf(int word, int from, int to) {
            int low = Math.max(0, from - word * WORD_BITS);
            int high = Math.min(WORD_BITS, to - word * WORD_BITS);
            if (low >= high) {
                return 0L;
            }
            // a shift by 64 would be one by 0
            long below = high == WORD_BITS ? -1L : (1L << high) - 1L;
            return below & -1L << low;
        }
    }

    private static final class Law {
        private final int number;
        private final boolean byOffence;
        private final int from;
        private final int eighths;
        private final boolean needsBoard;

        Law(int number, boolean byOffence, int from, int eighths, boolean needsBoard) {
            this.number = number;
            this.byOffence = byOffence;
            this.from = from;
            this.eighths = eighths;
            this.needsBoard = needsBoard;
        }
    }

    /** Days that were added, in a chain by their day and, on one day, as they were told. */
    private static final class Added {
        private final int day;
        private int left;
        private Added next;

        Added(int day, int left) {
            this.day = day;
            this.left = left;
        }
    }

    private static final class Person {
        private final Days daysAtLarge = new Days();
        private final Days daysHeld = new Days();
        private Warrant firstWarrant;
        private Warrant lastWarrant;
        private Added firstAdded;
        private Added unreadAdded;
        private Recall firstRecall;
        private Recall lastRecall;
        private int recalls;

        void takeWarrant(Warrant w) {
            if (lastWarrant == null) {
                firstWarrant = w;
            } else {
                lastWarrant.next = w;
            }
            lastWarrant = w;
        }

        /** How many recalls there are then. */
        int takeRecall(Recall r) {
            if (lastRecall == null) {
                firstRecall = r;
            } else {
                lastRecall.next = r;
            }
            lastRecall = r;
            recalls++;
            return recalls;
        }

        void takeAdded(Added a) {
            Added before = null;
            for (Added b = firstAdded; b != null && b.day <= a.day; b = b.next) {
                before = b;
            }
            if (before == null) {
                a.next = firstAdded;
                firstAdded = a;
            } else {
                a.next = before.next;
                before.next = a;
            }
        }

        int waitingWarrants() {
            int waiting = 0;
            for (Warrant w = firstWarrant; w != null; w = w.next) {
                if (w.waits()) {
                    waiting++;
                }
            }
            return waiting;
        }

        /** A warrant stands only behind earlier ones, and a recall ends by licences: hence this order. */
        void reckon() {
            for (Warrant w = firstWarrant; w != null; w = w.next) {
                w.reckon();
            }
            for (Recall r = firstRecall; r != null; r = r.next) {
                r.reckon();
            }
        }

        char stateAt(int day) {
            boolean inPrison = keeperAt(day) != null;
            if (inPrison || recallAt(day) != null) {
                return letter(inPrison, daysAtLarge.has(day));
            }
            return isLicensed(day) ? 'l' : 'o';
        }

        Warrant keeperAt(int day) {
            Warrant keeper = null;
            for (Warrant w = firstWarrant; w != null; w = w.next) {
                if (w.keepsOn(day) && (keeper == null || w.releaseDay > keeper.releaseDay)) {
                    keeper = w;
                }
            }
            return keeper;
        }

        Recall recallAt(int day) {
            for (Recall r = firstRecall; r != null; r = r.next) {
                if (r.day <= day && day < r.until) {
                    return r;
                }
            }
            return null;
        }

        boolean isLicensed(int day) {
            for (Warrant w = firstWarrant; w != null; w = w.next) {
                if (w.licensesOn(day)) {
                    return true;
                }
            }
            return false;
        }

        void putDue(Days due) {
            due.clear();
            for (Warrant w = firstWarrant; w != null; w = w.next) {
                due.put(w.begin, w.releaseDay);
            }
            for (Recall r = firstRecall; r != null; r = r.next) {
                due.put(r.day, r.until);
            }
        }

        static char letter(boolean inPrison, boolean away) {
            if (away) {
                return 'a';
            }
            return inPrison ? 'p' : 'r';
        }
    }

    /** A warrant as it was told, and its days as they were last reckoned. */
    private static final class Warrant {
        private final int number;
        private final Person owner;
        private final char kind;
        private final int offence;
        private final int passed;
        private final Warrant ahead;
        private final Tally tally = new Tally();
        private Law law;
        private Term term;
        private int runsFrom = UNTOLD;
        private int yesDay = UNTOLD;
        private int countedWhole;
        private int countedUnderTag;
        private boolean quashed;
        private int begin = NEVER;
        private int neededDays;
        private int releaseDay = NEVER;
        private int licenceEnd;
        private Warrant next;

        Warrant(int number, Person owner, char kind, int offence, int passed, Warrant ahead, Term term) {
            this.number = number;
            this.owner = owner;
            this.kind = kind;
            this.offence = offence;
            this.passed = passed;
            this.ahead = ahead;
            this.term = term;
        }

        /** To be called with the laws in the order of their numbers, as the greatest one counts. */
        void apply(Law newer) {
            int by = newer.byOffence ? offence : passed;
            if (isLikeFixed() && by >= newer.from) {
                law = newer;
            }
        }

        boolean isLikeFixed() {
            return kind == 'f' || kind == 's';
        }

        boolean waits() {
            return kind == 's' && runsFrom == UNTOLD;
        }

        boolean counts() {
            return !quashed && !waits();
        }

        int ownDay() {
            return kind == 's' ? runsFrom : passed;
        }

        boolean needsYes() {
            return kind == 'l' || law != null && law.needsBoard;
        }

        int countedDays() {
            return countedWhole + countedUnderTag / 2;
        }

        int neededOf(int span) {
            int eighths = 8;
            if (isLikeFixed()) {
                eighths = law == null ? EIGHTHS_WITHOUT_LAW : law.eighths;
            }
            return Math.max(0, (span * eighths + 7) / 8 - countedDays());
        }

        int mostNeededOf(int span) {
            return Math.max(0, span - countedDays());
        }

        boolean keepsOn(int day) {
            return begin <= day && day < releaseDay;
        }

        boolean licensesOn(int day) {
            return releaseDay <= day && day < licenceEnd;
        }

        void reckon() {
            begin = reckonBegin();
            neededDays = 0;
            releaseDay = NEVER;
            licenceEnd = 0;
            if (begin == NEVER) {
                return;
            }
            int span = term.spanFrom(begin);
            neededDays = neededOf(span);
            releaseDay = releaseAfter(neededDays);
            for (Added a = owner.firstAdded; a != null; a = a.next) {
                if (isLikeFixed() && keepsOn(a.day)) {
                    neededDays = Math.min(neededDays + a.left, mostNeededOf(span));
                    releaseDay = releaseAfter(neededDays);
                }
            }
            licenceEnd = endAfter(span);
        }

        private int reckonBegin() {
            if (!counts()) {
                return NEVER;
            }
            if (ahead == null || !ahead.counts()) {
                return ownDay();
            }
            return Math.max(ownDay(), ahead.releaseDay);
        }

        private int releaseAfter(int needed) {
            int day = owner.daysAtLarge.dayBehind(begin, needed);
            if (needsYes()) {
                day = yesDay == UNTOLD ? NEVER : Math.max(day, yesDay);
            }
            return day > LAST_DAY ? NEVER : day;
        }

        private int endAfter(int span) {
            if (releaseDay == NEVER || kind == 'd') {
                return 0;
            }
            if (kind == 'l') {
                return NEVER;
            }
            return begin + span - countedDays() + owner.daysAtLarge.within(begin, releaseDay);
        }
    }

    /** A recall as it was told, its end as it was last reckoned, and what the clerk notes of it. */
    private static final class Recall {
        private final Person owner;
        private final int day;
        private final boolean isFixed;
        private final int warrantsThen;
        private int letGoDay = NEVER;
        private int until;
        private int clerksDays;
        private boolean clerksEnd;
        private Recall next;

        Recall(Person owner, int day, boolean isFixed, int warrantsThen) {
            this.owner = owner;
            this.day = day;
            this.isFixed = isFixed;
            this.warrantsThen = warrantsThen;
        }

        void reckon() {
            until = Math.min(letGoDay, firstDayUnlicensed());
            if (isFixed) {
                until = Math.min(until, owner.daysAtLarge.dayBehind(day, RECALL_DAYS));
            }
        }

        /** Each round that goes on leaves the end of one licence at least behind it. */
        private int firstDayUnlicensed() {
            int first = day;
            for (int round = 0; round < MAX_WARRANTS; round++) {
                int later = latestLicenceEnd(first);
                if (later == first) {
                    return first;
                }
                first = later;
            }
            return first;
        }

        private int latestLicenceEnd(int from) {
            int latest = from;
            for (Warrant w = owner.firstWarrant; w != null && w.number < warrantsThen; w = w.next) {
                if (w.licensesOn(from)) {
                    latest = Math.max(latest, w.licenceEnd);
                }
            }
            return latest;
        }
    }

    /** What the clerk has noted of one warrant up to the day that he has come to. */
    private static final class Tally {
        private int begun;
        private int span;
        private int needs;
        private int served;
        private int missed;
        private int freed;
        private int licenceEnd;

        void open() {
            begun = NEVER;
            span = 0;
            needs = 0;
            served = 0;
            missed = 0;
            freed = NEVER;
            licenceEnd = 0;
        }

        boolean runs() {
            return begun != NEVER && freed == NEVER;
        }

        boolean licenses(int day) {
            return freed != NEVER && day < licenceEnd;
        }

        void passDay(Warrant w, int day, boolean away) {
            if (begun == NEVER && mayBegin(w, day)) {
                begun = day;
                span = w.term.spanFrom(day);
                needs = w.neededOf(span);
            }
            if (runs() && served >= needs && mayLeave(w, day)) {
                freed = day;
                licenceEnd = endOfLicence(w);
            }
            if (runs()) {
                missed += away ? 1 : 0;
                served += away ? 0 : 1;
            }
        }

        void putAdded(Warrant w, Added a) {
            if (w.isLikeFixed() && runs()) {
                needs = Math.min(needs + a.left, w.mostNeededOf(span));
            }
        }

        private static boolean mayBegin(Warrant w, int day) {
            if (!w.counts() || day < w.ownDay()) {
                return false;
            }
            return w.ahead == null || !w.ahead.counts() || w.ahead.tally.freed != NEVER;
        }

        private static boolean mayLeave(Warrant w, int day) {
            return !w.needsYes() || w.yesDay != UNTOLD && w.yesDay <= day;
        }

        private int endOfLicence(Warrant w) {
            if (w.kind == 'l') {
                return NEVER;
            }
            return w.isLikeFixed() ? begun + span - w.countedDays() + missed : 0;
        }
    }

    /** Finds the states a second way: by going from day to day, with notes on what was until then. */
    private static final class Clerk {
        static char stateAfterDays(Person p, int day) {
            open(p);
            char state = 'o';
            for (int d = 0; d <= day; d++) {
                state = passDay(p, d);
            }
            return state;
        }

        static boolean agrees(Person p) {
            p.reckon();
            open(p);
            for (int d = 0; d <= LAST_CHECK; d++) {
                char state = passDay(p, d);
                if (d % CHECK_STEP == 0 && state != p.stateAt(d)) {
                    return false;
                }
            }
            return true;
        }

        private static void open(Person p) {
            p.unreadAdded = p.firstAdded;
            for (Warrant w = p.firstWarrant; w != null; w = w.next) {
                w.tally.open();
            }
            for (Recall r = p.firstRecall; r != null; r = r.next) {
                r.clerksDays = 0;
                r.clerksEnd = false;
            }
        }

        private static char passDay(Person p, int day) {
            boolean away = p.daysAtLarge.has(day);
            boolean inPrison = false;
            boolean licensed = false;
            for (Warrant w = p.firstWarrant; w != null; w = w.next) {
                w.tally.passDay(w, day, away);
                inPrison = inPrison || w.tally.runs();
                licensed = licensed || w.tally.licenses(day);
            }
            readAdded(p, day);
            boolean recalled = passRecalls(p, day, away);
            if (inPrison || recalled) {
                return Person.letter(inPrison, away);
            }
            return licensed ? 'l' : 'o';
        }

        /** To be called behind the releases of the day: days added on it do not put these off. */
        private static void readAdded(Person p, int day) {
            for (Added a = p.unreadAdded; a != null && a.day <= day; a = a.next) {
                for (Warrant w = p.firstWarrant; w != null; w = w.next) {
                    w.tally.putAdded(w, a);
                }
                p.unreadAdded = a.next;
            }
        }

        private static boolean passRecalls(Person p, int day, boolean away) {
            boolean recalled = false;
            for (Recall r = p.firstRecall; r != null; r = r.next) {
                if (r.day > day || r.clerksEnd) {
                    continue;
                }
                if (endsOn(r, p, day)) {
                    r.clerksEnd = true;
                } else {
                    recalled = true;
                    r.clerksDays += away ? 0 : 1;
                }
            }
            return recalled;
        }

        private static boolean endsOn(Recall r, Person p, int day) {
            if (r.letGoDay <= day || r.isFixed && r.clerksDays >= RECALL_DAYS) {
                return true;
            }
            for (Warrant w = p.firstWarrant; w != null && w.number < r.warrantsThen; w = w.next) {
                if (w.tally.licenses(day)) {
                    return false;
                }
            }
            return true;
        }
    }
}

import java.time.LocalDate;
import java.time.temporal.ChronoUnit;
import java.util.ArrayList;
import java.util.Comparator;
import java.util.List;
import java.util.NoSuchElementException;

/** The document once more, as literally as it goes and without any care for speed. */
final class Model {
    private static final LocalDate DAY_0 = LocalDate.of(2000, 1, 1);

    private static final class LawTold {
        char by;
        int from;
        int eighths;
        boolean board;
    }

    private static final class WarrantTold {
        int number;
        int person;
        char kind;
        int offence;
        int passed;
        int years;
        int months;
        int days;
        int behind;
        Integer run;
        Integer yes;
        boolean quashed;
        int whole;
        int tagged;

        boolean asFixed() {
            return kind == 'f' || kind == 's';
        }

        boolean counts() {
            return !quashed && (kind != 's' || run != null);
        }

        int already() {
            return whole + tagged / 2;
        }
    }

    private static final class AddedTold {
        int person;
        int day;
        int left;
    }

    private static final class RecallTold {
        int person;
        int day;
        char kind;
        Integer letGo;
        List<WarrantTold> there;
    }

    /** What follows for one warrant; null stands for none. */
    private static final class Figures {
        Integer begin;
        Integer needed;
        Integer release;
        Integer end;
        boolean forEver;

        boolean keeps(int day) {
            return begin != null && begin <= day && (release == null || release > day);
        }

        boolean licence(int day) {
            return release != null && release <= day && (forEver || end != null && day < end);
        }
    }

    private final List<LawTold> laws = new ArrayList<>();
    private final List<boolean[]> large = new ArrayList<>();
    private final List<boolean[]> heldDays = new ArrayList<>();
    private final List<WarrantTold> all = new ArrayList<>();
    private final List<AddedTold> additions = new ArrayList<>();
    private final List<RecallTold> recalls = new ArrayList<>();
    private List<Figures> figures;
    private List<Integer> recallEnds;

    // ---- tests of arguments

    private static void arg(boolean fine) {
        if (!fine) {
            throw new IllegalArgumentException();
        }
    }

    private static void index(boolean fine) {
        if (!fine) {
            throw new IndexOutOfBoundsException();
        }
    }

    private static boolean in(int x, int least, int most) {
        return least <= x && x <= most;
    }

    private static boolean isDay(int day) {
        return in(day, 0, 19999);
    }

    private static boolean isTerm(int years, int months, int days) {
        return in(years, 0, 40) && in(months, 0, 11) && in(days, 0, 9999);
    }

    private void personThere(int person) {
        index(in(person, 0, large.size() - 1));
    }

    private WarrantTold told(int warrant) {
        index(in(warrant, 0, all.size() - 1));
        return all.get(warrant);
    }

    // ---- calendar and laws

    int dayOf(int year, int month, int date) {
        arg(in(year, 2000, 2054) && in(month, 1, 12) && date >= 1);
        arg(date <= LocalDate.of(year, month, 1).lengthOfMonth());
        int day = (int) ChronoUnit.DAYS.between(DAY_0, LocalDate.of(year, month, date));
        arg(isDay(day));
        return day;
    }

    int dateOf(int day) {
        arg(isDay(day));
        LocalDate d = DAY_0.plusDays(day);
        return d.getYear() * 10000 + d.getMonthValue() * 100 + d.getDayOfMonth();
    }

    int length(int day, int years, int months, int days) {
        arg(isDay(day) && isTerm(years, months, days));
        LocalDate from = DAY_0.plusDays(day);
        return (int) ChronoUnit.DAYS.between(from, from.plusMonths(12L * years + months).plusDays(days));
    }

    int law(char by, int from, int eighths, boolean board) {
        arg((by == 'o' || by == 'p') && isDay(from) && in(eighths, 1, 8));
        if (laws.size() == 8) {
            throw new IllegalStateException();
        }
        LawTold l = new LawTold();
        l.by = by;
        l.from = from;
        l.eighths = eighths;
        l.board = board;
        laws.add(l);
        changed();
        return laws.size() - 1;
    }

    int lawOf(int warrant) {
        WarrantTold w = told(warrant);
        if (!w.asFixed()) {
            throw new UnsupportedOperationException();
        }
        int n = lawNumber(w);
        if (n < 0) {
            throw new NoSuchElementException();
        }
        return n;
    }

    private int lawNumber(WarrantTold w) {
        for (int n = laws.size() - 1; n >= 0; n--) {
            LawTold l = laws.get(n);
            if ((l.by == 'o' ? w.offence : w.passed) >= l.from) {
                return n;
            }
        }
        return -1;
    }

    // ---- persons and warrants

    int person() {
        if (large.size() == 6) {
            throw new IllegalStateException();
        }
        large.add(new boolean[20000]);
        heldDays.add(new boolean[20000]);
        return large.size() - 1;
    }

    int warrant(int person, char kind, int offence, int passed, int years, int months, int days, int behind) {
        personThere(person);
        index(behind == -1 || in(behind, 0, all.size() - 1));
        arg("flds".indexOf(kind) >= 0 && isDay(offence) && isDay(passed) && passed >= offence);
        arg(isTerm(years, months, days) && years + months + days > 0);
        if (behind >= 0 && all.get(behind).person != person) {
            throw new UnsupportedOperationException();
        }
        if (all.size() == 24) {
            throw new IllegalStateException();
        }
        WarrantTold w = new WarrantTold();
        w.number = all.size();
        w.person = person;
        w.kind = kind;
        w.offence = offence;
        w.passed = passed;
        w.behind = behind;
        setTerm(w, years, months, days);
        all.add(w);
        changed();
        return w.number;
    }

    private static void setTerm(WarrantTold w, int years, int months, int days) {
        w.years = years;
        w.months = months;
        w.days = days;
    }

    int count(int warrant, int days, boolean underTag) {
        WarrantTold w = told(warrant);
        arg(in(days, 1, 999));
        w.whole += underTag ? 0 : days;
        w.tagged += underTag ? days : 0;
        changed();
        return w.already();
    }

    int activate(int warrant, int day) {
        WarrantTold w = told(warrant);
        arg(isDay(day) && day >= w.passed);
        if (w.kind != 's' || w.run != null) {
            throw new UnsupportedOperationException();
        }
        w.run = day;
        changed();
        int still = 0;
        for (WarrantTold v : all) {
            still += v.person == w.person && v.kind == 's' && v.run == null ? 1 : 0;
        }
        return still;
    }

    int vary(int warrant, int years, int months, int days) {
        WarrantTold w = told(warrant);
        arg(isTerm(years, months, days) && years + months + days > 0);
        setTerm(w, years, months, days);
        changed();
        return length(w.passed, years, months, days);
    }

    boolean quash(int warrant) {
        WarrantTold w = told(warrant);
        boolean was = w.quashed;
        w.quashed = true;
        changed();
        return !was;
    }

    int approve(int warrant, int day) {
        WarrantTold w = told(warrant);
        arg(isDay(day));
        int before = w.yes == null ? -1 : w.yes;
        w.yes = day;
        changed();
        return before;
    }

    int add(int person, int day, int days) {
        personThere(person);
        arg(isDay(day) && in(days, 1, 200));
        if (additions.size() == 30) {
            throw new IllegalStateException();
        }
        AddedTold a = new AddedTold();
        a.person = person;
        a.day = day;
        a.left = days;
        additions.add(a);
        changed();
        return additions.size() - 1;
    }

    int giveBack(int added, int days) {
        index(in(added, 0, additions.size() - 1));
        AddedTold a = additions.get(added);
        arg(days >= 1 && days <= a.left);
        a.left -= days;
        changed();
        return a.left;
    }

    private int put(boolean[] days, int from, int to) {
        arg(isDay(from) && to > from && to <= 20000);
        for (int d = from; d < to; d++) {
            days[d] = true;
        }
        int sum = 0;
        for (boolean b : days) {
            sum += b ? 1 : 0;
        }
        changed();
        return sum;
    }

    int atLarge(int person, int from, int to) {
        personThere(person);
        return put(large.get(person), from, to);
    }

    int held(int person, int from, int to) {
        personThere(person);
        return put(heldDays.get(person), from, to);
    }

    int recall(int person, int day, char kind) {
        personThere(person);
        arg(isDay(day) && (kind == 'f' || kind == 's'));
        if (state(person, day) != 'l') {
            throw new UnsupportedOperationException();
        }
        if (recalls.size() == 20) {
            throw new IllegalStateException();
        }
        RecallTold r = new RecallTold();
        r.person = person;
        r.day = day;
        r.kind = kind;
        r.there = new ArrayList<>(all);
        recalls.add(r);
        changed();
        int sum = 0;
        for (RecallTold q : recalls) {
            sum += q.person == person ? 1 : 0;
        }
        return sum;
    }

    int letGo(int person, int day) {
        personThere(person);
        arg(isDay(day));
        for (int i = 0; i < recalls.size(); i++) {
            if (recalls.get(i).person == person && goesOn(i, day)) {
                recalls.get(i).letGo = day;
                changed();
                return recalls.get(i).day;
            }
        }
        throw new UnsupportedOperationException();
    }

    // ---- what follows

    private void changed() {
        figures = null;
        recallEnds = null;
    }

    private Figures of(WarrantTold w) {
        if (figures == null) {
            figures = new ArrayList<>();
            for (WarrantTold v : all) {
                figures.add(reckon(v));
            }
        }
        return figures.get(w.number);
    }

    private Figures reckon(WarrantTold w) {
        Figures f = new Figures();
        if (!w.counts()) {
            return f;
        }
        int begin = w.kind == 's' ? w.run : w.passed;
        if (w.behind >= 0 && all.get(w.behind).counts()) {
            Integer there = figures.get(w.behind).release;
            if (there == null) {
                return f;
            }
            begin = Math.max(begin, there);
        }
        f.begin = begin;
        int length = length(begin, w.years, w.months, w.days);
        int law = w.asFixed() ? lawNumber(w) : -1;
        int eighths = law < 0 ? 4 : laws.get(law).eighths;
        int part = w.asFixed() ? (int) Math.ceil(length * eighths / 8.0) : length;
        int needed = Math.max(0, part - w.already());
        boolean board = w.kind == 'l' || law >= 0 && laws.get(law).board;
        Integer release = releaseBy(w, begin, needed, board);
        if (w.asFixed()) {
            List<AddedTold> inOrder = new ArrayList<>(additions);
            inOrder.sort(Comparator.comparingInt(a -> a.day));
            for (AddedTold a : inOrder) {
                boolean comes = a.person == w.person && begin <= a.day;
                if (comes && (release == null || release > a.day)) {
                    needed = Math.min(needed + a.left, Math.max(0, length - w.already()));
                    release = releaseBy(w, begin, needed, board);
                }
            }
        }
        f.needed = needed;
        f.release = release;
        if (release != null && w.asFixed()) {
            int end = begin + length - w.already();
            for (int d = begin; d < release; d++) {
                end += large.get(w.person)[d] ? 1 : 0;
            }
            f.end = end > release ? end : null;
        }
        f.forEver = release != null && w.kind == 'l';
        return f;
    }

    private Integer releaseBy(WarrantTold w, int begin, int needed, boolean board) {
        if (board && w.yes == null) {
            return null;
        }
        boolean[] away = large.get(w.person);
        int served = 0;
        for (int d = begin; d < 20000; d++) {
            if (served >= needed && (!board || d >= w.yes)) {
                return d;
            }
            served += away[d] ? 0 : 1;
        }
        return null;
    }

    private boolean goesOn(int recall, int day) {
        if (recallEnds == null) {
            recallEnds = new ArrayList<>();
            for (RecallTold r : recalls) {
                recallEnds.add(recallEnd(r));
            }
        }
        return recalls.get(recall).day <= day && day < recallEnds.get(recall);
    }

    private int recallEnd(RecallTold r) {
        int counted = 0;
        for (int d = r.day; d < 20000; d++) {
            boolean licence = false;
            for (WarrantTold w : r.there) {
                licence |= w.person == r.person && of(w).licence(d);
            }
            boolean past = r.kind == 'f' && counted == 28;
            if (!licence || past || r.letGo != null && r.letGo == d) {
                return d;
            }
            counted += large.get(r.person)[d] ? 0 : 1;
        }
        return 20000;
    }

    private Figures begun(int warrant) {
        Figures f = of(told(warrant));
        if (f.begin == null) {
            throw new NoSuchElementException();
        }
        return f;
    }

    private static int some(Integer x) {
        if (x == null) {
            throw new NoSuchElementException();
        }
        return x;
    }

    int begins(int warrant) {
        return begun(warrant).begin;
    }

    int needed(int warrant) {
        return begun(warrant).needed;
    }

    int release(int warrant) {
        return some(begun(warrant).release);
    }

    int end(int warrant) {
        return some(begun(warrant).end);
    }

    private char state(int person, int day) {
        boolean prison = false;
        boolean licence = false;
        for (WarrantTold w : all) {
            prison |= w.person == person && of(w).keeps(day);
            licence |= w.person == person && of(w).licence(day);
        }
        boolean recalled = false;
        for (int i = 0; i < recalls.size(); i++) {
            recalled |= recalls.get(i).person == person && goesOn(i, day);
        }
        char state = prison ? 'p' : recalled ? 'r' : licence ? 'l' : 'o';
        return (state == 'p' || state == 'r') && large.get(person)[day] ? 'a' : state;
    }

    char stateOn(int person, int day) {
        personThere(person);
        arg(isDay(day));
        return state(person, day);
    }

    int keeper(int person, int day) {
        personThere(person);
        arg(isDay(day));
        WarrantTold best = null;
        for (WarrantTold w : all) {
            if (w.person == person && of(w).keeps(day)) {
                best = best == null || later(of(w).release, of(best).release) ? w : best;
            }
        }
        if (best == null) {
            throw new NoSuchElementException();
        }
        return best.number;
    }

    private static boolean later(Integer one, Integer other) {
        return other != null && (one == null || one > other);
    }

    int tooLong(int person, int before) {
        return wrongDays(person, before, true);
    }

    int tooShort(int person, int before) {
        return wrongDays(person, before, false);
    }

    private int wrongDays(int person, int before, boolean held) {
        personThere(person);
        arg(in(before, 0, 20000));
        int sum = 0;
        for (int d = 0; d < before; d++) {
            if (heldDays.get(person)[d] == held) {
                sum += (held ? "lo" : "pr").indexOf(state(person, d)) >= 0 ? 1 : 0;
            }
        }
        return sum;
    }

    int warrants() {
        return all.size();
    }

    long owed() {
        long sum = 0;
        for (WarrantTold w : all) {
            sum += of(w).begin == null ? 0 : of(w).needed;
        }
        return sum;
    }

    float prisonShare(int day) {
        arg(isDay(day));
        if (large.isEmpty()) {
            throw new ArithmeticException();
        }
        int prison = 0;
        for (int p = 0; p < large.size(); p++) {
            prison += state(p, day) == 'p' ? 1 : 0;
        }
        return (float) prison / (float) large.size();
    }

    double meanNeeded() {
        long begun = 0;
        for (WarrantTold w : all) {
            begun += of(w).begin == null ? 0 : 1;
        }
        if (begun == 0) {
            throw new ArithmeticException();
        }
        return (double) owed() / (double) begun;
    }
}

import java.time.LocalDate;
import java.time.temporal.ChronoUnit;

/** Promises 1 to 4. */
public final class CalendarTests {
    private static final LocalDate DAY_0 = LocalDate.of(2000, 1, 1);

    private CalendarTests() {
    }

    public static void main(String[] args) {
        newObject();
        dayOf();
        dateOf();
        length();
        allDays();
        manyTerms();
        Check.end("CalendarTests");
    }

    private static void newObject() {
        Termreckonry x = new Termreckonry();
        Check.is("warrants of a new office", 0, x::warrants);
        Check.is("owed of a new office", 0L, x::owed);
        Check.is("isTrue of a new office", true, x::isTrue);
        Check.fails("meanNeeded of a new office", ArithmeticException.class, x::meanNeeded);
        Check.fails("prisonShare of a new office", ArithmeticException.class, () -> x.prisonShare(0));
        Check.fails("no person in a new office", IndexOutOfBoundsException.class, () -> x.stateOn(0, 0));
        Check.fails("no added days in a new office", IndexOutOfBoundsException.class, () -> x.giveBack(0, 1));
        Check.fails("no warrant in a new office", IndexOutOfBoundsException.class, () -> x.quash(0));
        Check.is("first person", 0, x::person);
        Check.is("first law", 0, () -> x.law('o', 0, 8, false));
        Check.is("the first object's person is not the second's", "throws.IndexOutOfBoundsException",
                () -> Check.outcome(() -> new Termreckonry().stateOn(0, 0)));
    }

    private static void dayOf() {
        Termreckonry x = new Termreckonry();
        Check.is("first day", 0, () -> x.dayOf(2000, 1, 1));
        Check.is("leap day of 2000", 59, () -> x.dayOf(2000, 2, 29));
        Check.is("day behind it", 60, () -> x.dayOf(2000, 3, 1));
        Check.is("2001", 366, () -> x.dayOf(2001, 1, 1));
        Check.is("last day", 19999, () -> x.dayOf(2054, 10, 3));
        int[][] wrong = {{2054, 10, 4}, {2054, 12, 31}, {1999, 12, 31}, {2055, 1, 1}, {2000, 0, 1}, {2000, 13, 1},
            {2000, 1, 0}, {2001, 1, 0}, {2000, 1, 32}, {2001, 2, 29}, {2000, 2, 30}, {2003, 4, 31}, {2003, 6, 31}, {2003, 9, 31},
            {2003, 11, 31}, {2003, 1, -1}, {2003, -1, 1}, {-2003, 1, 1}, {2003, Integer.MIN_VALUE, 1},
            {2003, Integer.MAX_VALUE, 1}, {2003, 1, Integer.MAX_VALUE}, {Integer.MAX_VALUE, 1, 1}, {11761240, 1, 1}};
        for (int[] w : wrong) {
            Check.fails("dayOf " + w[0] + " " + w[1] + " " + w[2], IllegalArgumentException.class,
                    () -> x.dayOf(w[0], w[1], w[2]));
        }
    }

    private static void dateOf() {
        Termreckonry x = new Termreckonry();
        Check.is("first date", 20000101, () -> x.dateOf(0));
        Check.is("leap day", 20040229, () -> x.dateOf(1520));
        Check.is("last date", 20541003, () -> x.dateOf(19999));
        Check.fails("day -1", IllegalArgumentException.class, () -> x.dateOf(-1));
        Check.fails("day 20000", IllegalArgumentException.class, () -> x.dateOf(20000));
    }

    private static void length() {
        Termreckonry x = new Termreckonry();
        Check.is("nothing", 0, () -> x.length(0, 0, 0, 0));
        Check.is("a month from the 31st of January on", 29, () -> x.length(30, 0, 1, 0));
        Check.is("a month and a day from there on", 30, () -> x.length(30, 0, 1, 1));
        Check.is("a year from a leap day on", 365, () -> x.length(59, 1, 0, 0));
        // 29 Feb 2000, 3 years and 12 months on: each clip is of the whole, not of the years first
        Check.is("four years from a leap day on", 1461, () -> x.length(59, 4, 0, 0));
        Check.is("11 months over the new year", 335, () -> x.length(31, 0, 11, 0));
        Check.is("days alone", 9999, () -> x.length(123, 0, 0, 9999));
        Check.is("the longest", 24944, () -> x.length(19999, 40, 11, 9999));
        int[][] wrong = {{-1, 0, 0, 1}, {20000, 0, 0, 1}, {0, -1, 0, 1}, {0, 41, 0, 1}, {0, 0, -1, 1}, {0, 0, 12, 1},
            {0, 0, 0, -1}, {0, 0, 0, 10000}, {0, Integer.MAX_VALUE, 0, 0}, {0, 0, Integer.MIN_VALUE, 0}};
        for (int[] w : wrong) {
            Check.fails("length " + w[0] + " " + w[1] + " " + w[2] + " " + w[3], IllegalArgumentException.class,
                    () -> x.length(w[0], w[1], w[2], w[3]));
        }
    }

    private static void allDays() {
        Termreckonry x = null;
        for (int day = 0; day < 20000; day++) {
            // an object is promised for 512 calls
            x = day % 200 == 0 ? new Termreckonry() : x;
            Termreckonry y = x;
            int d = day;
            LocalDate date = DAY_0.plusDays(day);
            Check.is("dateOf " + day, date.getYear() * 10000 + date.getMonthValue() * 100 + date.getDayOfMonth(),
                    () -> y.dateOf(d));
            Check.is("dayOf " + date, day,
                    () -> y.dayOf(date.getYear(), date.getMonthValue(), date.getDayOfMonth()));
        }
    }

    private static void manyTerms() {
        Termreckonry x = null;
        int term = 0;
        for (int day = 0; day < 20000; day += 7) {
            x = day % 2100 == 0 ? new Termreckonry() : x;
            Termreckonry y = x;
            int d = day;
            int years = term % 41;
            int months = term % 12;
            int days = term % 5 == 0 ? 0 : term * 13 % 10000;
            LocalDate from = DAY_0.plusDays(day);
            LocalDate to = from.plusMonths(12L * years + months).plusDays(days);
            Check.is("length " + day + " " + years + " " + months + " " + days,
                    (int) ChronoUnit.DAYS.between(from, to), () -> y.length(d, years, months, days));
            term++;
        }
    }
}

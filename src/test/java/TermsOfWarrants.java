import java.time.LocalDate;
import java.time.temporal.ChronoUnit;

/** The sentences of "Terms" on the calendar, the laws, the warrants and the needed days. */
final class TermsOfWarrants {
    private static final LocalDate DAY_0 = LocalDate.of(2000, 1, 1);

    private TermsOfWarrants() {
    }

    static void run() {
        calendar();
        terms();
        laws();
        kindsOfWarrants();
        beginnings();
        neededDays();
        countedDays();
        addedDays();
        addedDaysAndReleases();
        mostAddedDays();
        givenBack();
    }

    private static void says(String words, Runnable test) {
        Sentence.of("Terms", words, test);
    }

    // ---- calendar

    private static void calendar() {
        says("Days are numbered from 0, which is the first of January 2000, up to 19999", () -> {
            Termreckonry x = new Termreckonry();
            Check.is("the date of the day 0", 20000101, () -> x.dateOf(0));
            Check.is("the day of this date", 0, () -> x.dayOf(2000, 1, 1));
            Check.is("the date of the day 19999", 20541003, () -> x.dateOf(19999));
            Check.is("the day of this date", 19999, () -> x.dayOf(2054, 10, 3));
            Check.fails("the day -1", Edge.ARGUMENT, () -> x.dateOf(-1));
            Check.fails("the day 20000", Edge.ARGUMENT, () -> x.dateOf(20000));
            Check.fails("the date of the day 20000", Edge.ARGUMENT, () -> x.dayOf(2054, 10, 4));
        });
        says("years have 365 days, or 366, if they can be divided by 4 and not by 100, or by 400", () -> {
            Termreckonry x = new Termreckonry();
            for (int y = 2000; y < 2054; y++) {
                int year = y;
                int first = x.dayOf(year, 1, 1);
                Check.is("days of " + year, year % 4 == 0 ? 366 : 365, () -> x.dayOf(year + 1, 1, 1) - first);
                Check.is("term of " + year, year % 4 == 0 ? 366 : 365, () -> x.length(first, 1, 0, 0));
            }
            int last = x.dayOf(2054, 1, 1);
            for (int y = 0; y <= 40; y++) {
                int years = y;
                int due = (int) ChronoUnit.DAYS.between(LocalDate.of(2054, 1, 1), LocalDate.of(2054 + y, 1, 1));
                Check.is("years behind 2054: " + y, due, () -> x.length(last, years, 0, 0));
            }
        });
        says("with the months that everybody knows", () -> {
            int[] days = {31, 28, 31, 30, 31, 30, 31, 31, 30, 31, 30, 31};
            for (int month = 1; month <= 12; month++) {
                month(2003, month, days[month - 1]);
                month(2004, month, month == 2 ? 29 : days[month - 1]);
                month(2000, month, month == 2 ? 29 : days[month - 1]);
            }
        });
    }

    private static void month(int year, int month, int days) {
        Termreckonry x = new Termreckonry();
        int first = x.dayOf(year, month, 1);
        Check.is("last of " + year + " " + month, first + days - 1, () -> x.dayOf(year, month, days));
        Check.fails("behind it", Edge.ARGUMENT, () -> x.dayOf(year, month, days + 1));
        Check.is("the date of it", year * 10000 + month * 100 + days, () -> x.dateOf(first + days - 1));
        int next = month == 12 ? (year + 1) * 10000 + 101 : year * 10000 + month * 100 + 101;
        Check.is("the next date", next, () -> x.dateOf(first + days));
        Check.is("a month from the first on", days, () -> x.length(first, 0, 1, 0));
    }

    private static void length(String what, LocalDate from, int years, int months, int days, int due) {
        int day = (int) ChronoUnit.DAYS.between(DAY_0, from);
        Check.is(what, due, () -> new Termreckonry().length(day, years, months, days));
    }

    private static void terms() {
        says("A term of years, months and days from a day on leads to the day of the month that is so many years and"
                + " months later", () -> {
            length("a year", LocalDate.of(2000, 1, 1), 1, 0, 0, 366);
            length("a month", LocalDate.of(2000, 1, 1), 0, 1, 0, 31);
            length("a year and a month", LocalDate.of(2000, 1, 1), 1, 1, 0, 397);
            length("into the next year", LocalDate.of(2000, 12, 15), 0, 1, 0, 31);
            length("into December", LocalDate.of(2000, 1, 31), 0, 11, 0, 335);
            length("just into the next January", LocalDate.of(2000, 2, 29), 0, 11, 0, 335);
            length("the longest", LocalDate.of(2054, 10, 3), 40, 11, 0, 14945);
        });
        says("or to the last one of that month, if it has no such day", () -> {
            length("31st of January, leap year", LocalDate.of(2000, 1, 31), 0, 1, 0, 29);
            length("30th of January, leap year", LocalDate.of(2000, 1, 30), 0, 1, 0, 30);
            length("29th of January, leap year", LocalDate.of(2000, 1, 29), 0, 1, 0, 31);
            length("29th of January, no leap year", LocalDate.of(2001, 1, 29), 0, 1, 0, 30);
            length("28th of January, no leap year", LocalDate.of(2001, 1, 28), 0, 1, 0, 31);
            length("31st of March", LocalDate.of(2001, 3, 31), 0, 1, 0, 30);
            length("31st of December, two months", LocalDate.of(2001, 12, 31), 0, 2, 0, 59);
            length("29th of February, a year", LocalDate.of(2000, 2, 29), 1, 0, 0, 365);
            length("29th of February, four years", LocalDate.of(2000, 2, 29), 4, 0, 0, 1461);
            length("29th of February, a year and a month: the years do not clip alone",
                    LocalDate.of(2000, 2, 29), 1, 1, 0, 394);
            length("31st of January, 13 months", LocalDate.of(2000, 1, 31), 1, 1, 0, 394);
        });
        says("and then so many days on", () -> {
            length("the months come first", LocalDate.of(2000, 1, 31), 0, 1, 1, 30);
            length("not the days", LocalDate.of(2000, 1, 31), 0, 1, 2, 31);
            length("all of them", LocalDate.of(2000, 1, 1), 40, 11, 9999, 14945 + 9999);
        });
        says("its length is the number of days from the one to the other", () -> {
            length("nothing", LocalDate.of(2000, 1, 1), 0, 0, 0, 0);
            length("nothing from the last day on", LocalDate.of(2054, 10, 3), 0, 0, 0, 0);
            length("one day", LocalDate.of(2054, 10, 3), 0, 0, 1, 1);
            length("the most days", LocalDate.of(2054, 10, 3), 0, 0, 9999, 9999);
        });
    }

    // ---- laws

    private static void law(Termreckonry x, int warrant, int due) {
        Check.is("law of " + warrant, due == Edge.NONE ? "throws.NoSuchElementException" : (Object) due,
                () -> Check.outcome(() -> x.lawOf(warrant)));
    }

    private static void laws() {
        says("At most 8 laws are numbered from 0.", () -> {
            Termreckonry x = Edge.one('f', 5000, 10);
            for (int n = 0; n < 8; n++) {
                int number = n;
                Check.is("law " + n, number, () -> x.law('p', 10 * number, 1, false));
                law(x, 0, number);
            }
            Check.fails("law 8", Edge.STATE, () -> x.law('p', 0, 1, false));
            law(x, 0, 7);
        });
        says("A law holds from a day on", () -> {
            for (int from : new int[] {1, 500, 19998}) {
                Termreckonry x = Edge.persons(1);
                x.law('p', from, 1, false);
                for (int day = from - 1; day <= from + 1; day++) {
                    x.warrant(0, 'f', 0, day, 0, 0, 8, -1);
                }
                law(x, 0, Edge.NONE);
                law(x, 1, 0);
                law(x, 2, 0);
            }
            Termreckonry x = Edge.one('f', 0, 8);
            x.warrant(0, 's', 19999, 19999, 0, 0, 8, -1);
            x.law('o', 0, 8, false);
            law(x, 0, 0);
            x.law('p', 19999, 7, false);
            law(x, 0, 0);
            law(x, 1, 1);
            x.law('p', 10000, 6, false);
            x.warrant(0, 's', 0, 9999, 0, 0, 8, -1);
            x.activate(2, 10000);
            law(x, 2, 0);
            x.law('p', 10000, 5, false);
            law(x, 2, 0);
            law(x, 1, 3);
        });
        says("by the day of the offence 'o' or of the passing 'p' of a warrant", () -> {
            Termreckonry x = Edge.persons(1);
            x.warrant(0, 'f', 100, 200, 0, 0, 80, -1);
            x.law('o', 101, 1, false);
            law(x, 0, Edge.NONE);
            x.law('o', 100, 2, false);
            law(x, 0, 1);
            x.law('p', 201, 3, false);
            law(x, 0, 1);
            x.law('p', 200, 5, false);
            law(x, 0, 3);
        });
        says("it tells eighths, 1 to 8", () -> {
            for (int e = 1; e <= 8; e++) {
                Termreckonry x = Edge.one('f', 0, 800);
                int eighths = e;
                Check.is("a law of " + e, 0, () -> x.law('o', 0, eighths, false));
                Check.is("needed by " + e, 100 * e, () -> x.needed(0));
            }
            Edge.refused("eighths", Edge.ARGUMENT, n -> new Termreckonry().law('o', 0, n, false), 0, 9, -4, 12);
        });
        says("and whether a board must say yes", () -> {
            Termreckonry x = Edge.one('f', 0, 10);
            x.law('p', 0, 4, false);
            Edge.figures(x, 0, 0, 5, 5, 10);
            x.law('p', 0, 4, true);
            Edge.figures(x, 0, 0, 5, Edge.NONE, Edge.NONE);
            x.law('p', 0, 4, false);
            Edge.figures(x, 0, 0, 5, 5, 10);
        });
        says("that law with the greatest number counts for which this day of the warrant is not earlier", () -> {
            Termreckonry x = Edge.persons(1);
            x.warrant(0, 'f', 950, 1000, 0, 0, 80, -1);
            x.law('p', 1000, 8, false);
            x.law('o', 10, 7, false);
            x.law('p', 0, 6, false);
            x.law('p', 1001, 1, false);
            x.law('o', 951, 2, false);
            law(x, 0, 2);
            Check.is("needed", 60, () -> x.needed(0));
            Check.is("one that is told later", 1, () -> x.warrant(0, 'f', 951, 1000, 0, 0, 80, -1));
            law(x, 1, 4);
            Check.is("needed", 20, () -> x.needed(1));
        });
        says("without any, 4 eighths and no board", () -> {
            Termreckonry x = Edge.one('f', 100, 9);
            Edge.figures(x, 0, 100, 5, 105, 109);
            x.law('o', 101, 8, true);
            x.law('p', 101, 8, true);
            Edge.figures(x, 0, 100, 5, 105, 109);
        });
    }

    // ---- warrants

    private static void kindsOfWarrants() {
        says("At most 24 warrants are numbered from 0", () -> {
            Termreckonry x = Edge.persons(2);
            for (int n = 0; n < 24; n++) {
                int number = n;
                Check.is("warrant " + n, number, () -> x.warrant(number / 12, 'd', 0, number, 0, 0, 4, -1));
            }
            Check.fails("one more", Edge.STATE, () -> x.warrant(0, 'd', 0, 0, 0, 0, 4, -1));
            Edge.figures(x, 0, 0, 4, 4, Edge.NONE);
            Edge.figures(x, 23, 23, 4, 27, Edge.NONE);
            Check.is("all of them", 24, x::warrants);
            Termreckonry y = Edge.one('d', 100, 1);
            for (int n = 1; n < 24; n++) {
                y.warrant(0, 'd', 0, 0, 0, 0, n + 1, n - 1);
            }
            Check.is("all of them, one behind another", 300L, y::owed);
            Edge.figures(y, 23, 376, 24, 400, Edge.NONE);
            Check.is("the last one keeps", 23, () -> y.keeper(0, 399));
            Check.is("the one ahead of it keeps", 22, () -> y.keeper(0, 375));
            Edge.states(y, 0, 399, "po");
            y.quash(0);
            Edge.figures(y, 1, 0, 2, 2, Edge.NONE);
            Edge.figures(y, 23, 275, 24, 299, Edge.NONE);
        });
        says("each for one of at most 6 persons", () -> {
            Termreckonry x = Edge.persons(6);
            Check.fails("one more", Edge.STATE, x::person);
            for (int n = 0; n < 6; n++) {
                int person = n;
                Check.is("for " + n, person, () -> x.warrant(person, 'd', 0, 10 * person, 0, 0, 4, -1));
            }
            for (int n = 0; n < 6; n++) {
                for (int person = 0; person < 6; person++) {
                    Edge.states(x, person, 10 * n, person == n ? "p" : "o");
                }
            }
        });
        says("with the days of the offence and of the passing, a term, and a kind", () -> {
            Termreckonry x = Edge.persons(1);
            x.law('o', 200, 8, false);
            x.warrant(0, 'd', 200, 200, 0, 0, 1, -1);
            x.warrant(0, 'd', 0, 200, 0, 1, 0, -1);
            x.warrant(0, 'd', 0, 200, 1, 0, 0, -1);
            x.warrant(0, 'd', 0, 200, 1, 1, 1, -1);
            x.warrant(0, 'f', 199, 200, 0, 0, 2, -1);
            x.warrant(0, 'f', 200, 200, 0, 0, 2, -1);
            // day 200 is the 19th of July 2000
            int[] due = {1, 31, 365, 397, 1, 2};
            for (int w = 0; w < due.length; w++) {
                Edge.figures(x, w, 200, due[w], 200 + due[w], w == 4 ? 202 : Edge.NONE);
            }
        });
        says("'f' fixed", () -> Edge.figures(Edge.one('f', 100, 31), 0, 100, 16, 116, 131));
        says("'l' for life, its term being the least one", () -> {
            Termreckonry x = Edge.one('l', 100, 31);
            Edge.figures(x, 0, 100, 31, Edge.NONE, Edge.NONE);
            x.approve(0, 100);
            Edge.figures(x, 0, 100, 31, 131, Edge.NONE);
            x.approve(0, 132);
            Edge.figures(x, 0, 100, 31, 132, Edge.NONE);
        });
        says("'d' in default", () -> Edge.figures(Edge.one('d', 100, 31), 0, 100, 31, 131, Edge.NONE));
        says("'s' suspended, which counts for nothing until it is made to run from a day on, and is as a fixed one then",
                () -> {
            Termreckonry x = Edge.one('s', 100, 31);
            Edge.figures(x, 0, Edge.NONE, Edge.NONE, Edge.NONE, Edge.NONE);
            Edge.states(x, 0, 100, "o");
            x.warrant(0, 'd', 0, 110, 0, 0, 5, 0);
            Edge.figures(x, 1, 110, 5, 115, Edge.NONE);
            x.activate(0, 120);
            Edge.figures(x, 0, 120, 16, 136, 151);
            Edge.figures(x, 1, 136, 5, 141, Edge.NONE);
            Edge.states(x, 0, 119, "op");
            x.add(0, 120, 3);
            Edge.figures(x, 0, 120, 19, 139, 151);
        });
    }

    private static void beginnings() {
        says("A warrant may stand behind an earlier one of this person.", () -> {
            Termreckonry x = Edge.persons(2);
            Check.fails("behind itself", Edge.INDEX, () -> x.warrant(0, 'd', 0, 5, 0, 0, 5, 0));
            x.warrant(0, 'd', 0, 5, 0, 0, 5, -1);
            Check.fails("behind another's", Edge.UNSUPPORTED, () -> x.warrant(1, 'd', 0, 5, 0, 0, 5, 0));
            Check.is("behind the own one", 1, () -> x.warrant(0, 'd', 0, 5, 0, 0, 5, 0));
            Check.is("two behind one", 2, () -> x.warrant(0, 'd', 0, 5, 0, 0, 6, 0));
            Edge.figures(x, 1, 10, 5, 15, Edge.NONE);
            Edge.figures(x, 2, 10, 6, 16, Edge.NONE);
        });
        says("It begins on the day of its passing, or on that on which it is made to run", () -> {
            Termreckonry x = Edge.persons(1);
            x.warrant(0, 'f', 0, 7, 0, 0, 4, -1);
            x.warrant(0, 's', 0, 7, 0, 0, 4, -1);
            x.activate(1, 7);
            x.warrant(0, 's', 0, 7, 0, 0, 4, -1);
            x.activate(2, 8);
            x.warrant(0, 'd', 0, 0, 0, 0, 4, -1);
            x.warrant(0, 'l', 19999, 19999, 0, 0, 4, -1);
            int[] due = {7, 7, 8, 0, 19999};
            for (int w = 0; w < due.length; w++) {
                int warrant = w;
                Check.is("begins " + w, due[w], () -> x.begins(warrant));
            }
        });
        says("but if it stands behind one that counts, on the day of release by that one, if this is later", () -> {
            Termreckonry x = Edge.one('f', 100, 40);
            for (int passed = 119; passed <= 121; passed++) {
                x.warrant(0, 'd', 0, passed, 0, 0, 1, 0);
            }
            Check.is("passed a day ahead of the release", 120, () -> x.begins(1));
            Check.is("passed on the release", 120, () -> x.begins(2));
            Check.is("passed a day behind it", 121, () -> x.begins(3));
            x.warrant(0, 's', 0, 0, 0, 0, 4, 0);
            x.activate(4, 119);
            Check.is("made to run a day ahead of it", 120, () -> x.begins(4));
            x.quash(0);
            Check.is("behind one that counts no more", 119, () -> x.begins(1));
            Check.is("made to run behind that", 119, () -> x.begins(4));
            Termreckonry y = Edge.onLicence();
            y.warrant(0, 'f', 0, 100, 0, 0, 10, 0);
            y.warrant(0, 'f', 0, 0, 0, 0, 10, 1);
            Edge.figures(y, 2, 155, 5, 160, 165);
            Edge.states(y, 0, 99, "op");
            Edge.states(y, 0, 149, "ppppppppppplll");
            Termreckonry z = Edge.one('d', 0, 1);
            z.count(0, 1, false);
            z.warrant(0, 'd', 0, 0, 0, 0, 1, 0);
            Edge.figures(z, 1, 0, 1, 1, Edge.NONE);
            Edge.states(z, 0, 0, "po");
            z.warrant(0, 'd', 0, 19998, 0, 0, 1, -1);
            z.warrant(0, 'd', 0, 0, 0, 0, 1, 2);
            Edge.figures(z, 3, 19999, 1, Edge.NONE, Edge.NONE);
            Edge.states(z, 0, 19997, "opp");
        });
        says("and never, if there is no release by that one", () -> {
            Termreckonry x = Edge.one('d', 19990, 10);
            x.warrant(0, 'd', 0, 0, 0, 0, 1, 0);
            x.warrant(0, 'f', 0, 0, 0, 0, 1, 1);
            Edge.figures(x, 0, 19990, 10, Edge.NONE, Edge.NONE);
            Edge.figures(x, 1, Edge.NONE, Edge.NONE, Edge.NONE, Edge.NONE);
            Edge.figures(x, 2, Edge.NONE, Edge.NONE, Edge.NONE, Edge.NONE);
            Edge.states(x, 0, 0, "oo");
            Edge.states(x, 0, 19989, "op");
            x.count(0, 1, false);
            Edge.figures(x, 1, 19999, 1, Edge.NONE, Edge.NONE);
            x.count(1, 1, false);
            Edge.figures(x, 1, 19999, 0, 19999, Edge.NONE);
            Edge.figures(x, 2, 19999, 1, Edge.NONE, Edge.NONE);
        });
        says("A warrant that was quashed counts for nothing.", () -> {
            Termreckonry x = Edge.onLicence();
            x.warrant(0, 'd', 0, 300, 0, 0, 5, 0);
            x.warrant(0, 'd', 0, 120, 0, 0, 5, 0);
            Edge.figures(x, 2, 150, 5, 155, Edge.NONE);
            x.quash(0);
            Edge.figures(x, 0, Edge.NONE, Edge.NONE, Edge.NONE, Edge.NONE);
            Edge.figures(x, 1, 300, 5, 305, Edge.NONE);
            Edge.figures(x, 2, 120, 5, 125, Edge.NONE);
            Edge.states(x, 0, 100, "o");
            Edge.states(x, 0, 150, "o");
            x.approve(0, 100);
            x.add(0, 120, 5);
            Edge.figures(x, 0, Edge.NONE, Edge.NONE, Edge.NONE, Edge.NONE);
            Check.is("owed without it", 10L, x::owed);
            Edge.states(x, 0, 119, "opppppo");
            Edge.states(x, 0, 299, "op");
        });
    }

    // ---- needed days

    private static void neededDays() {
        says("By the length of the term from the day on which it begins", () -> {
            Termreckonry x = Edge.persons(1);
            // two months: of 61 days from the first of March on, of 60 from the first of January 2000 on
            x.warrant(0, 'd', 0, 0, 0, 2, 0, -1);
            x.warrant(0, 'd', 0, 0, 0, 2, 0, 0);
            Edge.figures(x, 0, 0, 60, 60, Edge.NONE);
            Edge.figures(x, 1, 60, 61, 121, Edge.NONE);
            x.warrant(0, 's', 0, 0, 0, 2, 0, -1);
            x.activate(2, 60);
            Edge.figures(x, 2, 60, 31, 91, 121);
        });
        says("of a fixed one, the length times the eighths, divided by 8, rounded up", () -> {
            for (int e = 1; e <= 8; e++) {
                Termreckonry x = Edge.persons(1);
                x.law('o', 0, e, false);
                for (int length = 1; length <= 17; length++) {
                    x.warrant(0, length % 2 == 0 ? 'f' : 's', 0, 0, 0, 0, length, -1);
                    int warrant = length - 1;
                    if (length % 2 != 0) {
                        x.activate(warrant, 0);
                    }
                    int due = length * e / 8 + (length * e % 8 == 0 ? 0 : 1);
                    Check.is(e + " eighths of " + length, due, () -> x.needed(warrant));
                }
            }
        });
        says("of the others, all of it", () -> {
            for (int length : new int[] {1, 7, 8, 9}) {
                Termreckonry x = Edge.persons(1);
                x.law('o', 0, 1, false);
                x.warrant(0, 'l', 0, 0, 0, 0, length, -1);
                x.warrant(0, 'd', 0, 0, 0, 0, length, -1);
                Check.is("for life", length, () -> x.needed(0));
                Check.is("in default", length, () -> x.needed(1));
            }
        });
        says("less the days that count already", () -> {
            for (char kind : new char[] {'f', 'l', 'd', 's'}) {
                Termreckonry x = Edge.one(kind, 100, 41);
                if (kind == 's') {
                    x.activate(0, 100);
                }
                int all = kind == 'f' || kind == 's' ? 21 : 41;
                x.count(0, 1, false);
                Check.is("kind " + kind + ", one day", all - 1, () -> x.needed(0));
                x.count(0, all - 2, false);
                Check.is("kind " + kind + ", all but one", 1, () -> x.needed(0));
            }
        });
        says("; at least 0.", () -> {
            for (char kind : new char[] {'f', 'l', 'd'}) {
                Termreckonry x = Edge.one(kind, 100, 41);
                x.approve(0, 0);
                x.count(0, kind == 'f' ? 21 : 41, false);
                Check.is("kind " + kind + ", all", 0, () -> x.needed(0));
                x.count(0, 1, false);
                Check.is("kind " + kind + ", one more", 0, () -> x.needed(0));
                x.count(0, 999, false);
                Check.is("kind " + kind + ", many more", 0, () -> x.needed(0));
                Check.is("kind " + kind + ", release", 100, () -> x.release(0));
            }
        });
    }

    private static void countedDays() {
        says("Days that count already are told for a warrant", () -> {
            Termreckonry x = Edge.one('d', 100, 40);
            x.warrant(0, 'd', 100, 100, 0, 0, 40, -1);
            x.count(1, 7, false);
            Check.is("the other", 40, () -> x.needed(0));
            Check.is("this one", 33, () -> x.needed(1));
        });
        says("of those under a tag, half count, of all told so together, rounded down", () -> {
            Termreckonry x = Edge.one('d', 100, 40);
            int[] told = {1, 1, 1, 2, 3, 5};
            int[] due = {0, 1, 1, 2, 4, 6};
            for (int n = 0; n < told.length; n++) {
                int days = told[n];
                Check.is("told " + n, due[n], () -> x.count(0, days, true));
                Check.is("needed then", 40 - due[n], () -> x.needed(0));
            }
            Check.is("whole ones beside them", 7, () -> x.count(0, 1, false));
            Check.is("which are not halved with them: 14 and 1", 8, () -> x.count(0, 1, true));
            Check.is("15 and 1", 8, () -> x.count(0, 1, true));
            Check.is("999 of them", 499, () -> Edge.one('d', 0, 1).count(0, 999, true));
        });
    }

    private static void addedDays() {
        says("days that are added for a person on a day come to the needed days of each warrant, fixed or made to run",
                () -> {
            Termreckonry x = Edge.persons(2);
            for (char kind : new char[] {'f', 'f', 'l', 'd', 's', 's'}) {
                x.warrant(0, kind, 0, 100, 0, 0, 100, -1);
            }
            x.activate(5, 100);
            x.approve(2, 0);
            x.warrant(1, 'f', 0, 100, 0, 0, 100, -1);
            x.add(0, 110, 7);
            Edge.states(x, 1, 149, "pl");
            int[] due = {57, 57, 100, 100, Edge.NONE, 57, 50};
            for (int w = 0; w < due.length; w++) {
                int release = due[w] == Edge.NONE ? Edge.NONE : 100 + due[w];
                boolean licence = due[w] == 57 || due[w] == 50;
                Edge.figures(x, w, due[w] == Edge.NONE ? Edge.NONE : 100, due[w], release,
                        licence ? 200 : Edge.NONE);
            }
        });
        says("that has begun on this day or earlier", () -> {
            Termreckonry x = Edge.persons(1);
            for (int passed = 109; passed <= 111; passed++) {
                x.warrant(0, 'f', 0, passed, 0, 0, 100, -1);
            }
            x.warrant(0, 's', 0, 0, 0, 0, 100, -1);
            x.activate(3, 110);
            x.warrant(0, 's', 0, 0, 0, 0, 100, -1);
            x.activate(4, 111);
            x.add(0, 110, 7);
            int[] due = {57, 57, 50, 57, 50};
            for (int w = 0; w < due.length; w++) {
                int warrant = w;
                Check.is("needed by " + w, due[w], () -> x.needed(warrant));
            }
            Termreckonry y = Edge.one('f', 0, 10);
            y.add(0, 0, 1);
            Check.is("on the day 0", 6, () -> y.needed(0));
            Edge.states(y, 0, 5, "pl");
            Termreckonry z = Edge.one('f', 19999, 10);
            z.add(0, 19999, 1);
            Check.is("on the day 19999", 6, () -> z.needed(0));
        });
        says("by its beginning as all that is told leads to it", () -> {
            Termreckonry x = Edge.onLicence();
            x.warrant(0, 'f', 0, 100, 0, 0, 100, 0);
            x.add(0, 150, 4);
            Edge.figures(x, 0, 100, 50, 150, 200);
            Edge.figures(x, 1, 150, 54, 204, 250);
            // one day at large: those of the day 150 come to the first one now, and the second begins later
            x.atLarge(0, 120, 121);
            Edge.figures(x, 0, 100, 54, 155, 201);
            Edge.figures(x, 1, 155, 50, 205, 255);
            x.quash(0);
            Edge.figures(x, 1, 100, 54, 155, 201);
        });
    }

    private static void addedDaysAndReleases() {
        says("and whose release by all added ones of earlier days, and of this day told earlier, would be later than"
                + " this day", () -> {
            for (int day = 149; day <= 151; day++) {
                Termreckonry x = Edge.onLicence();
                x.add(0, day, 5);
                Check.is("added on " + day, day == 149 ? 55 : 50, () -> x.needed(0));
                Edge.states(x, 0, 149, day == 149 ? "ppppppl" : "plllll");
            }
            Termreckonry x = Edge.onLicence();
            x.add(0, 160, 9);
            x.add(0, 155, 10);
            Check.is("the release is 150", 50, () -> x.needed(0));
            x.add(0, 149, 5);
            Check.is("now it is 155: not later than the next ones", 55, () -> x.needed(0));
            x.add(0, 149, 1);
            Check.is("156, 166, 175: told last, but of an earlier day", 75, () -> x.needed(0));
            Edge.states(x, 0, 174, "pl");
            Termreckonry y = Edge.onLicence();
            y.add(0, 149, 1);
            y.add(0, 150, 1);
            y.add(0, 150, 1);
            y.add(0, 153, 1);
            Check.is("two of one day, and none on the release", 53, () -> y.needed(0));
        });
        says("would be later than this day, or none", () -> {
            Termreckonry x = Edge.one('f', 19990, 20);
            Edge.figures(x, 0, 19990, 10, Edge.NONE, Edge.NONE);
            x.add(0, 19999, 3);
            Edge.figures(x, 0, 19990, 13, Edge.NONE, Edge.NONE);
            Termreckonry y = Edge.onLicence();
            y.law('o', 0, 4, true);
            y.add(0, 19999, 3);
            Check.is("without a yes", 53, () -> y.needed(0));
            y.approve(0, 150);
            Check.is("with a yes", 50, () -> y.needed(0));
            Termreckonry z = Edge.onLicence();
            z.atLarge(0, 100, 20000);
            z.add(0, 19999, 3);
            Check.is("always at large", 53, () -> z.needed(0));
        });
    }

    private static void mostAddedDays() {
        says("together with all else they are at most the length less the days that count already, at least 0", () -> {
            Termreckonry x = Edge.onLicence();
            x.add(0, 110, 49);
            Edge.figures(x, 0, 100, 99, 199, 200);
            Edge.states(x, 0, 198, "plo");
            x.add(0, 110, 1);
            Edge.figures(x, 0, 100, 100, 200, Edge.NONE);
            x.add(0, 110, 200);
            Edge.figures(x, 0, 100, 100, 200, Edge.NONE);
            Edge.states(x, 0, 199, "po");
            x.count(0, 10, false);
            Edge.figures(x, 0, 100, 90, 190, Edge.NONE);
            Edge.states(x, 0, 189, "po");
            Termreckonry y = Edge.one('f', 100, 9);
            y.law('o', 0, 8, true);
            y.count(0, 9, false);
            y.add(0, 100, 5);
            Edge.figures(y, 0, 100, 0, Edge.NONE, Edge.NONE);
            y.count(0, 1, false);
            Edge.figures(y, 0, 100, 0, Edge.NONE, Edge.NONE);
            Termreckonry z = Edge.one('f', 100, 9);
            z.law('o', 0, 1, true);
            z.count(0, 5, false);
            z.add(0, 101, 3);
            Check.is("the days that count more than are needed without added ones do not eat these", 3,
                    () -> z.needed(0));
            z.add(0, 101, 3);
            Check.is("at most 9 less 5", 4, () -> z.needed(0));
        });
    }

    private static void givenBack() {
        says("Days that are given back of added ones make these fewer, as if they had been so from the beginning.", () -> {
            Termreckonry x = Edge.onLicence();
            x.add(0, 149, 5);
            x.add(0, 154, 7);
            Check.is("both", 62, () -> x.needed(0));
            x.giveBack(1, 6);
            Check.is("one is left of the second", 56, () -> x.needed(0));
            x.giveBack(0, 1);
            Check.is("the release was 154 when the second came", 54, () -> x.needed(0));
            x.giveBack(0, 4);
            Check.is("nothing", 50, () -> x.needed(0));
            Termreckonry y = Edge.onLicence();
            y.add(0, 110, 200);
            y.add(0, 110, 30);
            y.giveBack(0, 100);
            Check.is("what was too much does not count as given back", 100, () -> y.needed(0));
            y.giveBack(0, 95);
            Check.is("5 and 30", 85, () -> y.needed(0));
        });
    }
}

/** Each range, answer and exception of the promises 1 to 6 has a test of its own. */
public final class CalendarEdgeTests {
    private CalendarEdgeTests() {
    }

    public static void main(String[] args) {
        newObject();
        dayOf();
        dateOf();
        lengthRanges();
        lengthAnswers();
        lawRanges();
        lawAnswers();
        lawOf();
        Sentence.allOfPromises(1, 6);
        Check.end("CalendarEdgeTests");
    }

    private static void newObject() {
        Sentence.of(1, "Creates an office without persons", () -> {
            Check.fails("no one to share", Edge.ARITHMETIC, () -> new Termreckonry().prisonShare(0));
            Edge.numbered("a person", 0, n -> new Termreckonry().stateOn(n, 0));
            Check.is("the first one", 0, () -> new Termreckonry().person());
            Check.is("all states are true", true, () -> new Termreckonry().isTrue());
        });
        Sentence.of(1, "laws and warrants.", () -> {
            Check.is("the first law", 0, () -> new Termreckonry().law('o', 0, 1, false));
            Check.is("no warrants", 0, () -> new Termreckonry().warrants());
            Check.is("nothing owed", 0L, () -> new Termreckonry().owed());
            Check.fails("no mean", Edge.ARITHMETIC, () -> new Termreckonry().meanNeeded());
            Edge.numbered("a warrant", 0, n -> new Termreckonry().begins(n));
            Edge.numbered("added ones", 0, n -> new Termreckonry().giveBack(n, 1));
            Check.fails("no law", Edge.ELEMENT, () -> Edge.one('f', 0, 1).lawOf(0));
            Check.is("the first warrant", 0, () -> Edge.persons(1).warrant(0, 'f', 0, 0, 0, 0, 1, -1));
            Termreckonry used = Edge.full();
            Check.is("beside another office", 0, () -> new Termreckonry().warrants());
            Check.is("which is as it was", 24, used::warrants);
        });
    }

    private static void dayOf() {
        Sentence.of(2, "- `year`: the year, 2000 to 2054",
                () -> Edge.range("year", 2000, 2054, n -> new Termreckonry().dayOf(n, 1, 1)));
        Sentence.of(2, "- `month`: the month, 1 to 12",
                () -> Edge.range("month", 1, 12, n -> new Termreckonry().dayOf(2003, n, 1)));
        Sentence.of(2, "- `date`: the day of the month, from 1",
                () -> Edge.range("date", 1, 31, n -> new Termreckonry().dayOf(2003, 7, n)));
        Sentence.of(2, "Returns the day.", () -> {
            Termreckonry x = new Termreckonry();
            int[][] due = {{2000, 1, 1, 0}, {2000, 1, 31, 30}, {2000, 2, 1, 31}, {2000, 2, 29, 59}, {2000, 3, 1, 60},
                {2000, 12, 31, 365}, {2001, 1, 1, 366}, {2001, 12, 31, 730}, {2004, 2, 29, 1520},
                {2004, 3, 1, 1521}, {2054, 10, 3, 19999}};
            for (int[] d : due) {
                Check.is(d[0] + " " + d[1] + " " + d[2], d[3], () -> x.dayOf(d[0], d[1], d[2]));
            }
        });
        Sentence.of(2, "Throws `IllegalArgumentException` if there is no such date, or it is later than the day 19999",
                () -> {
            Termreckonry x = new Termreckonry();
            int[][] none = {{2001, 2, 29}, {2000, 2, 30}, {2004, 2, 30}, {2003, 4, 31}, {2003, 6, 31}, {2003, 9, 31},
                {2003, 11, 31}, {2003, 1, 32}, {2003, 12, 32}, {2003, 2, 31}, {2003, 5, 0}, {2003, 5, -1},
                {2054, 10, 4}, {2054, 10, 31}, {2054, 11, 1}, {2054, 12, 31}, {2055, 1, 1}, {1999, 12, 31},
                // years so late or so early that the number of days wraps around into the range
                {11761240, 1, 1}, {1622774545, 1, 1}, {-11757221, 1, 1}, {-2140176225, 1, 1}};
            for (int[] d : none) {
                Check.fails(d[0] + " " + d[1] + " " + d[2], Edge.ARGUMENT, () -> x.dayOf(d[0], d[1], d[2]));
            }
            Check.is("the last one", 19999, () -> x.dayOf(2054, 10, 3));
            Check.is("the last of February", 19782, () -> x.dayOf(2054, 2, 28));
        });
    }

    private static void dateOf() {
        Sentence.of(3, "- `day`: the day, 0 to 19999",
                () -> Edge.range("day", 0, 19999, n -> new Termreckonry().dateOf(n)));
        Sentence.of(3, "Returns 10000 times the year, plus 100 times the month, plus the day of the month.", () -> {
            Termreckonry x = new Termreckonry();
            int[][] due = {{0, 20000101}, {30, 20000131}, {31, 20000201}, {59, 20000229}, {60, 20000301},
                {365, 20001231}, {366, 20010101}, {424, 20010228}, {425, 20010301}, {730, 20011231}, {731, 20020101},
                {1520, 20040229}, {1521, 20040301}, {19723, 20531231}, {19724, 20540101}, {19999, 20541003}};
            for (int[] d : due) {
                Check.is("date of " + d[0], d[1], () -> x.dateOf(d[0]));
            }
        });
        Sentence.of(3, "Throws `IllegalArgumentException` if it is out of range", () -> {
            Check.fails("day -1", Edge.ARGUMENT, () -> new Termreckonry().dateOf(-1));
            Check.fails("day 20000", Edge.ARGUMENT, () -> new Termreckonry().dateOf(20000));
        });
    }

    private static void lengthRanges() {
        Sentence.of(4, "- `day`: the day, 0 to 19999",
                () -> Edge.range("day", 0, 19999, n -> new Termreckonry().length(n, 40, 11, 9999)));
        Sentence.of(4, "- `years`: the years, 0 to 40",
                () -> Edge.range("years", 0, 40, n -> new Termreckonry().length(19999, n, 0, 0)));
        Sentence.of(4, "- `months`: the months, 0 to 11",
                () -> Edge.range("months", 0, 11, n -> new Termreckonry().length(19999, 0, n, 0)));
        Sentence.of(4, "- `days`: the days, 0 to 9999",
                () -> Edge.range("days", 0, 9999, n -> new Termreckonry().length(19999, 0, 0, n)));
    }

    private static void lengthAnswers() {
        Sentence.of(4, "Returns the length.", () -> {
            Termreckonry x = new Termreckonry();
            int[][] due = {{0, 0, 0, 0, 0}, {19999, 0, 0, 0, 0}, {0, 0, 0, 1, 1}, {0, 0, 1, 0, 31}, {31, 0, 1, 0, 29},
                {30, 0, 1, 0, 29}, {30, 0, 1, 1, 30}, {0, 1, 0, 0, 366}, {366, 1, 0, 0, 365}, {59, 1, 0, 0, 365},
                {59, 4, 0, 0, 1461}, {335, 0, 1, 0, 31}, {365, 0, 2, 0, 59}, {0, 40, 11, 9999, 24944},
                {19999, 40, 11, 9999, 24944}};
            for (int[] d : due) {
                Check.is(d[0] + ": " + d[1] + " " + d[2] + " " + d[3], d[4],
                        () -> x.length(d[0], d[1], d[2], d[3]));
            }
        });
        Sentence.of(4, "Throws `IllegalArgumentException` if a number is out of range", () -> {
            int[][] wrong = {{-1, 0, 0, 0}, {20000, 0, 0, 0}, {0, -1, 0, 0}, {0, 41, 0, 0}, {0, 0, -1, 0},
                {0, 0, 12, 0}, {0, 0, 0, -1}, {0, 0, 0, 10000}, {20000, 41, 12, 10000}};
            for (int[] w : wrong) {
                Check.fails(w[0] + ": " + w[1] + " " + w[2] + " " + w[3], Edge.ARGUMENT,
                        () -> new Termreckonry().length(w[0], w[1], w[2], w[3]));
            }
        });
    }

    private static void lawRanges() {
        Sentence.of(5, "- `by`: 'o' or 'p'",
                () -> Edge.letters("by", "op", c -> new Termreckonry().law(c, 0, 1, false)));
        Sentence.of(5, "- `from`: the day from which on it holds, 0 to 19999", () -> {
            Edge.range("from, by the offence", 0, 19999, n -> new Termreckonry().law('o', n, 1, false));
            Edge.range("from, by the passing", 0, 19999, n -> new Termreckonry().law('p', n, 8, true));
        });
        Sentence.of(5, "- `eighths`: the eighths, 1 to 8",
                () -> Edge.range("eighths", 1, 8, n -> new Termreckonry().law('o', 0, n, true)));
        Sentence.of(5, "- `needsBoard`: whether a board must say yes", () -> {
            Termreckonry x = Edge.one('f', 0, 2);
            x.law('o', 0, 4, true);
            Check.fails("it must", Edge.ELEMENT, () -> x.release(0));
            x.law('o', 0, 4, false);
            Check.is("it need not", 1, () -> x.release(0));
        });
    }

    private static void lawAnswers() {
        Sentence.of(5, "Returns its number.", () -> {
            Termreckonry x = new Termreckonry();
            for (int n = 0; n < 8; n++) {
                int number = n;
                Check.is("law", number, () -> x.law(number % 2 == 0 ? 'p' : 'o', 19999 - number, 8 - number, true));
            }
        });
        Sentence.of(5, "Throws `IllegalArgumentException` if there is no such way, or a number is out of range", () -> {
            Termreckonry x = new Termreckonry();
            Check.fails("way", Edge.ARGUMENT, () -> x.law('f', 0, 1, false));
            Check.fails("from -1", Edge.ARGUMENT, () -> x.law('o', -1, 1, false));
            Check.fails("from 20000", Edge.ARGUMENT, () -> x.law('p', 20000, 8, false));
            Check.fails("0 eighths", Edge.ARGUMENT, () -> x.law('o', 0, 0, false));
            Check.fails("9 eighths", Edge.ARGUMENT, () -> x.law('p', 19999, 9, false));
            Check.is("still the first", 0, () -> x.law('o', 0, 1, false));
        });
        Sentence.of(5, "Throws `IllegalStateException` if there are 8", () -> {
            Termreckonry x = new Termreckonry();
            for (int n = 0; n < 7; n++) {
                x.law('o', 0, 1, false);
            }
            Check.is("there are 7", 7, () -> x.law('p', 19999, 8, true));
            Check.fails("there are 8", Edge.STATE, () -> x.law('o', 0, 1, false));
            Check.fails("there are still 8", Edge.STATE, () -> x.law('p', 19999, 8, true));
        });
    }

    private static void lawOf() {
        Sentence.of(6, "Returns the law that counts for a warrant.", () -> {
            Termreckonry x = Edge.one('f', 100, 10);
            x.warrant(0, 's', 100, 100, 0, 0, 10, -1);
            for (int n = 0; n < 8; n++) {
                int number = n;
                x.law('p', 100, 1, false);
                Check.is("of a fixed one", number, () -> x.lawOf(0));
                Check.is("of a suspended one", number, () -> x.lawOf(1));
            }
        });
        Sentence.of(6, "Returns the law.", () -> {
            Termreckonry x = Edge.one('f', 100, 10);
            x.law('o', 100, 1, false);
            x.law('o', 101, 1, false);
            Check.is("the first", 0, () -> x.lawOf(0));
            x.quash(0);
            Check.is("of a quashed one", 0, () -> x.lawOf(0));
        });
        Sentence.of(6, "Throws `IndexOutOfBoundsException` if there is no such warrant", () -> {
            Termreckonry x = Edge.one('f', 100, 10);
            x.law('o', 0, 1, false);
            Edge.numbered("of one warrant", 1, x::lawOf);
            Termreckonry full = Edge.full();
            Check.is("the last of 24", 7, () -> full.lawOf(23));
            Edge.refused("of 24 warrants", Edge.INDEX, full::lawOf, -1, 24, 25, Integer.MIN_VALUE, Integer.MAX_VALUE);
        });
        Sentence.of(6, "Throws `UnsupportedOperationException` if it is for life or in default", () -> {
            Termreckonry x = Edge.one('l', 100, 10);
            x.warrant(0, 'd', 100, 100, 0, 0, 10, -1);
            x.law('o', 0, 1, false);
            Check.fails("for life", Edge.UNSUPPORTED, () -> x.lawOf(0));
            Check.fails("in default", Edge.UNSUPPORTED, () -> x.lawOf(1));
            x.quash(0);
            Check.fails("for life, quashed", Edge.UNSUPPORTED, () -> x.lawOf(0));
        });
        Sentence.of(6, "Throws `NoSuchElementException` if there is none", () -> {
            Termreckonry x = Edge.one('f', 100, 10);
            x.warrant(0, 's', 100, 100, 0, 0, 10, -1);
            Check.fails("no law at all", Edge.ELEMENT, () -> x.lawOf(0));
            Check.fails("no law at all, suspended", Edge.ELEMENT, () -> x.lawOf(1));
            x.law('o', 101, 1, false);
            x.law('p', 101, 1, false);
            Check.fails("none that holds", Edge.ELEMENT, () -> x.lawOf(0));
            x.activate(1, 200);
            Check.fails("none that holds, though it runs later", Edge.ELEMENT, () -> x.lawOf(1));
        });
    }
}

/** Each range, answer and exception of the promises 7 to 18 has a test of its own. */
public final class PersonEdgeTests {
    private PersonEdgeTests() {
    }

    public static void main(String[] args) {
        person();
        warrantRanges();
        warrantTerms();
        warrantBehind();
        warrantAnswers();
        count();
        activate();
        activateRefused();
        vary();
        varyAnswers();
        quash();
        approve();
        add();
        addLimits();
        giveBack();
        atLarge();
        recall();
        recallRefused();
        letGo();
        letGoRefused();
        Sentence.allOfPromises(7, 18);
        Check.end("PersonEdgeTests");
    }

    // ---- persons and their warrants

    private static void person() {
        Sentence.of(7, "Returns the number of the person, from 0.", () -> {
            Termreckonry x = new Termreckonry();
            for (int n = 0; n < 6; n++) {
                int number = n;
                Check.fails("not there yet", Edge.INDEX, () -> x.stateOn(number, 0));
                Check.is("person", number, x::person);
                Check.is("there now", 'o', () -> x.stateOn(number, 0));
            }
        });
        Sentence.of(7, "Throws `IllegalStateException` if there are 6", () -> {
            Termreckonry x = Edge.persons(5);
            Check.is("there are 5", 5, x::person);
            Check.fails("there are 6", Edge.STATE, x::person);
            Check.fails("there are still 6", Edge.STATE, x::person);
            Check.fails("the seventh is not there", Edge.INDEX, () -> x.stateOn(6, 0));
        });
    }

    private static Object kind(char kind) {
        return Edge.persons(1).warrant(0, kind, 0, 0, 0, 0, 1, -1);
    }

    private static Object days(int offence, int passed) {
        return Edge.persons(1).warrant(0, 'f', offence, passed, 0, 0, 1, -1);
    }

    private static Object term(int years, int months, int days) {
        return Edge.persons(1).warrant(0, 'f', 0, 0, years, months, days, -1);
    }

    private static void warrantRanges() {
        Sentence.of(8, "- `person`: the person", () -> {
            Edge.numbered("one person", 1, n -> Edge.persons(1).warrant(n, 'f', 0, 0, 0, 0, 1, -1));
            Edge.numbered("6 persons", 6, n -> Edge.persons(6).warrant(n, 'f', 0, 0, 0, 0, 1, -1));
        });
        Sentence.of(8, "- `kind`: 'f', 'l', 'd' or 's'", () -> Edge.letters("kind", "flds", PersonEdgeTests::kind));
        Sentence.of(8, "- `offence`: the day of the offence, 0 to 19999",
                () -> Edge.range("offence", 0, 19999, n -> days(n, 19999)));
        Sentence.of(8, "- `passed`: the day of the passing, not earlier, at most 19999", () -> {
            Edge.range("passed, offence on 0", 0, 19999, n -> days(0, n));
            Edge.range("passed, offence on 500", 500, 19999, n -> days(500, n));
            Check.is("on the day of the offence, the last one", 0, () -> days(19999, 19999));
            Check.fails("a day earlier than that", Edge.ARGUMENT, () -> days(19999, 19998));
        });
    }

    private static void warrantTerms() {
        Sentence.of(8, "- `years`: the years, 0 to 40", () -> Edge.range("years", 0, 40, n -> term(n, 0, 1)));
        Sentence.of(8, "- `months`: the months, 0 to 11", () -> Edge.range("months", 0, 11, n -> term(0, n, 1)));
        Sentence.of(8, "- `days`: the days, 0 to 9999", () -> Edge.range("days", 0, 9999, n -> term(0, 1, n)));
        Sentence.of(8, "or the term is nothing", () -> {
            Check.fails("nothing", Edge.ARGUMENT, () -> term(0, 0, 0));
            Check.is("a year", 0, () -> term(1, 0, 0));
            Check.is("a month", 0, () -> term(0, 1, 0));
            Check.is("a day", 0, () -> term(0, 0, 1));
            for (char kind : new char[] {'f', 'l', 'd', 's'}) {
                Check.fails("nothing, of the kind " + kind, Edge.ARGUMENT,
                        () -> Edge.persons(1).warrant(0, kind, 0, 0, 0, 0, 0, -1));
            }
            Check.fails("years against days", Edge.ARGUMENT, () -> term(1, 0, -1));
            Check.fails("days against years", Edge.ARGUMENT, () -> term(-1, 0, 366));
        });
    }

    private static void warrantBehind() {
        Sentence.of(8, "- `behind`: the warrant behind which it stands, or -1", () -> {
            Termreckonry x = Edge.one('d', 100, 10);
            x.warrant(0, 'd', 100, 100, 0, 0, 20, -1);
            Check.is("behind none", 2, () -> x.warrant(0, 'd', 0, 0, 0, 0, 1, -1));
            Check.is("behind the first", 3, () -> x.warrant(0, 'd', 0, 0, 0, 0, 1, 0));
            Check.is("behind the second", 4, () -> x.warrant(0, 'd', 0, 0, 0, 0, 1, 1));
            Check.is("behind the last", 5, () -> x.warrant(0, 'd', 0, 0, 0, 0, 1, 4));
            int[] due = {100, 100, 0, 110, 120, 121};
            for (int w = 0; w < due.length; w++) {
                int warrant = w;
                Check.is("begins " + w, due[w], () -> x.begins(warrant));
            }
        });
        Sentence.of(8, "Throws `IndexOutOfBoundsException` if there is no such person, or no such warrant behind which it"
                + " stands", () -> {
            Edge.numbered("nobody", 0, n -> new Termreckonry().warrant(n, 'f', 0, 0, 0, 0, 1, -1));
            int[] none = {-2, 0, 1, 23, 24, Integer.MIN_VALUE, Integer.MAX_VALUE};
            Edge.refused("behind, without any", Edge.INDEX,
                    n -> Edge.persons(1).warrant(0, 'f', 0, 0, 0, 0, 1, n), none);
            Edge.refused("behind, with one", Edge.INDEX,
                    n -> Edge.one('f', 0, 1).warrant(0, 'f', 0, 0, 0, 0, 1, n), -2, 1, 2, 23, 24);
        });
        Sentence.of(8, "Throws `UnsupportedOperationException` if the warrant behind which it stands is another person's",
                () -> {
            Termreckonry x = Edge.persons(2);
            x.warrant(0, 'f', 0, 0, 0, 0, 1, -1);
            x.warrant(1, 'f', 0, 0, 0, 0, 1, -1);
            Check.fails("the other's", Edge.UNSUPPORTED, () -> x.warrant(1, 'f', 0, 0, 0, 0, 1, 0));
            Check.fails("the one's", Edge.UNSUPPORTED, () -> x.warrant(0, 'f', 0, 0, 0, 0, 1, 1));
            x.quash(0);
            Check.fails("the other's, quashed", Edge.UNSUPPORTED, () -> x.warrant(1, 'f', 0, 0, 0, 0, 1, 0));
            Check.is("the own one's, quashed", 2, () -> x.warrant(0, 'f', 0, 0, 0, 0, 1, 0));
        });
    }

    private static void warrantAnswers() {
        Sentence.of(8, "Returns its number.", () -> {
            Termreckonry x = Edge.persons(3);
            for (int n = 0; n < 24; n++) {
                int number = n;
                Check.is("warrant", number,
                        () -> x.warrant(number % 3, "flds".charAt(number % 4), 0, 0, 0, 0, 1, -1));
            }
        });
        Sentence.of(8, "Throws `IllegalArgumentException` if there is no such kind, a number is out of range, or the term"
                + " is nothing", () -> {
            Check.fails("kind", Edge.ARGUMENT, () -> kind('o'));
            Check.fails("offence", Edge.ARGUMENT, () -> days(-1, 0));
            Check.fails("both days", Edge.ARGUMENT, () -> days(20000, 20000));
            Check.fails("passing", Edge.ARGUMENT, () -> days(19999, 20000));
            Check.fails("passing and offence", Edge.ARGUMENT, () -> days(1, 0));
            Check.fails("years", Edge.ARGUMENT, () -> term(41, 0, 0));
            Check.fails("months", Edge.ARGUMENT, () -> term(0, 12, 0));
            Check.fails("days", Edge.ARGUMENT, () -> term(0, 0, 10000));
            Check.fails("nothing", Edge.ARGUMENT, () -> term(0, 0, 0));
        });
        Sentence.of(8, "Throws `IllegalStateException` if there are 24", () -> {
            Termreckonry x = Edge.persons(2);
            for (int n = 0; n < 23; n++) {
                x.warrant(n % 2, 'f', 0, 0, 0, 0, 1, -1);
            }
            Check.is("there are 23", 23, () -> x.warrant(0, 'f', 0, 0, 0, 0, 1, -1));
            Check.fails("there are 24", Edge.STATE, () -> x.warrant(0, 'f', 0, 0, 0, 0, 1, -1));
            x.quash(0);
            Check.fails("a quashed one stays", Edge.STATE, () -> x.warrant(0, 'f', 0, 0, 0, 0, 1, -1));
            Check.fails("behind one of them", Edge.STATE, () -> x.warrant(0, 'f', 0, 0, 0, 0, 1, 22));
        });
    }

    // ---- one warrant

    private static void count() {
        Sentence.of(9, "- `days`: how many, 1 to 999", () -> {
            Edge.range("whole days", 1, 999, n -> Edge.one('f', 0, 1).count(0, n, false));
            Edge.range("days under a tag", 1, 999, n -> Edge.one('f', 0, 1).count(0, n, true));
        });
        Sentence.of(9, "- `underTag`: whether they were under a tag", () -> {
            Check.is("they were", 2, () -> Edge.one('f', 0, 1).count(0, 4, true));
            Check.is("they were not", 4, () -> Edge.one('f', 0, 1).count(0, 4, false));
        });
        Sentence.of(9, "Returns the days that count already then.", () -> {
            Termreckonry x = Edge.one('s', 0, 1);
            int[] days = {1, 1, 1, 999, 999, 3, 1};
            boolean[] tag = {true, false, true, true, false, true, true};
            int[] due = {0, 1, 2, 501, 1500, 1502, 1502};
            for (int n = 0; n < days.length; n++) {
                int told = n;
                Check.is("told " + n, due[n], () -> x.count(0, days[told], tag[told]));
            }
            x.quash(0);
            Check.is("of a quashed one", 1503, () -> x.count(0, 1, false));
        });
        Sentence.of(9, "Throws `IndexOutOfBoundsException` if there is no such warrant", () -> {
            Edge.numbered("without any", 0, n -> Edge.persons(1).count(n, 1, false));
            Edge.numbered("of one", 1, n -> Edge.one('f', 0, 1).count(n, 1, false));
            Edge.numbered("of 24", 24, n -> Edge.full().count(n, 1, true));
        });
        Sentence.of(9, "Throws `IllegalArgumentException` if a number is out of range", () -> {
            Termreckonry x = Edge.one('f', 0, 1);
            Check.fails("0", Edge.ARGUMENT, () -> x.count(0, 0, false));
            Check.fails("1000", Edge.ARGUMENT, () -> x.count(0, 1000, true));
            Check.is("nothing was counted", 1, () -> x.count(0, 1, false));
        });
    }

    private static void activate() {
        Sentence.of(10, "- `day`: the day, 0 to 19999",
                () -> Edge.range("day", 0, 19999, n -> Edge.one('s', 0, 1).activate(0, n)));
        Sentence.of(10, "Returns how many suspended ones of this person do not run still.", () -> {
            Termreckonry x = Edge.persons(2);
            for (char kind : new char[] {'s', 'f', 's', 's', 'l', 'd'}) {
                x.warrant(0, kind, 0, 0, 0, 0, 1, -1);
            }
            x.warrant(1, 's', 0, 0, 0, 0, 1, -1);
            Check.is("two are left", 2, () -> x.activate(2, 5));
            Check.is("the other person's: none is left", 0, () -> x.activate(6, 5));
            Check.is("one is left", 1, () -> x.activate(0, 5));
            Check.is("none is left", 0, () -> x.activate(3, 5));
            x.warrant(1, 's', 0, 0, 0, 0, 1, -1);
            x.warrant(1, 's', 0, 0, 0, 0, 1, -1);
            x.warrant(1, 's', 0, 0, 0, 0, 1, -1);
            x.quash(7);
            x.quash(8);
            Check.is("two that are quashed do not run still", 2, () -> x.activate(9, 5));
            Check.is("a quashed one", 1, () -> x.activate(8, 5));
            Check.fails("it counts for nothing all the same", Edge.ELEMENT, () -> x.begins(8));
            Termreckonry full = Edge.persons(1);
            for (int n = 0; n < 24; n++) {
                full.warrant(0, 's', 0, 0, 0, 0, 1, -1);
            }
            for (int n = 23; n >= 0; n--) {
                int left = n;
                Check.is("of 24", left, () -> full.activate(left, 0));
            }
        });
        Sentence.of(10, "Throws `IndexOutOfBoundsException` if there is no such warrant", () -> {
            Edge.numbered("without any", 0, n -> Edge.persons(1).activate(n, 0));
            Edge.numbered("of one", 1, n -> Edge.one('s', 0, 1).activate(n, 0));
            Edge.refused("of 24", Edge.INDEX, n -> Edge.full().activate(n, 5000), -1, 24);
            Edge.taken("of 24", n -> Edge.full().activate(n, 5000), 18, 23);
        });
    }

    private static void activateRefused() {
        Sentence.of(10, "Throws `IllegalArgumentException` if the day is out of range, or earlier than its passing", () -> {
            Check.fails("a day earlier", Edge.ARGUMENT, () -> Edge.one('s', 100, 1).activate(0, 99));
            Check.is("on the passing", 0, () -> Edge.one('s', 100, 1).activate(0, 100));
            Check.is("a day later", 0, () -> Edge.one('s', 100, 1).activate(0, 101));
            Check.fails("the last one, a day earlier", Edge.ARGUMENT, () -> Edge.one('s', 19999, 1).activate(0, 19998));
            Check.is("the last one", 0, () -> Edge.one('s', 19999, 1).activate(0, 19999));
            Check.fails("behind the last one", Edge.ARGUMENT, () -> Edge.one('s', 19999, 1).activate(0, 20000));
            Check.is("between offence and passing", "throws.IllegalArgumentException", () -> {
                Termreckonry x = Edge.persons(1);
                x.warrant(0, 's', 50, 100, 0, 0, 1, -1);
                return Check.outcome(() -> x.activate(0, 75));
            });
        });
        Sentence.of(10, "Throws `UnsupportedOperationException` if it is not suspended, or runs", () -> {
            for (char kind : new char[] {'f', 'l', 'd'}) {
                Check.fails("kind " + kind, Edge.UNSUPPORTED, () -> Edge.one(kind, 100, 1).activate(0, 100));
            }
            Termreckonry x = Edge.one('s', 100, 1);
            x.activate(0, 300);
            Check.fails("it runs", Edge.UNSUPPORTED, () -> x.activate(0, 300));
            Check.fails("it runs, from later on", Edge.UNSUPPORTED, () -> x.activate(0, 100));
            Check.is("as before", 300, () -> x.begins(0));
            Termreckonry y = Edge.one('s', 0, 1);
            y.activate(0, 0);
            Check.fails("it runs from 0 on", Edge.UNSUPPORTED, () -> y.activate(0, 0));
        });
    }

    private static Object varied(int years, int months, int days) {
        return Edge.one('f', 0, 1).vary(0, years, months, days);
    }

    private static void vary() {
        Sentence.of(11, "- `years`: the years, 0 to 40", () -> Edge.range("years", 0, 40, n -> varied(n, 0, 1)));
        Sentence.of(11, "- `months`: the months, 0 to 11", () -> Edge.range("months", 0, 11, n -> varied(0, n, 1)));
        Sentence.of(11, "- `days`: the days, 0 to 9999", () -> Edge.range("days", 0, 9999, n -> varied(0, 1, n)));
        Sentence.of(11, "Throws `IndexOutOfBoundsException` if there is no such warrant", () -> {
            Edge.numbered("without any", 0, n -> Edge.persons(1).vary(n, 1, 0, 0));
            Edge.numbered("of one", 1, n -> Edge.one('f', 0, 1).vary(n, 1, 0, 0));
            Edge.numbered("of 24", 24, n -> Edge.full().vary(n, 1, 0, 0));
        });
        Sentence.of(11, "Throws `IllegalArgumentException` if a number is out of range, or the term is nothing", () -> {
            Check.fails("nothing", Edge.ARGUMENT, () -> varied(0, 0, 0));
            Check.is("a year", 366, () -> varied(1, 0, 0));
            Check.is("a month", 31, () -> varied(0, 1, 0));
            Check.is("a day", 1, () -> varied(0, 0, 1));
            Check.fails("41 years", Edge.ARGUMENT, () -> varied(41, 0, 0));
            Check.fails("12 months", Edge.ARGUMENT, () -> varied(0, 12, 0));
            Check.fails("10000 days", Edge.ARGUMENT, () -> varied(0, 0, 10000));
            Check.fails("-1 years", Edge.ARGUMENT, () -> varied(-1, 0, 400));
            Check.fails("-1 months", Edge.ARGUMENT, () -> varied(1, -1, 0));
            Check.fails("-1 days", Edge.ARGUMENT, () -> varied(1, 0, -1));
        });
    }

    private static void varyAnswers() {
        Sentence.of(11, "Varies the term of a warrant, as if it had been so from the beginning.", () -> {
            Termreckonry x = Edge.onLicence();
            x.warrant(0, 'f', 100, 100, 0, 0, 100, 0);
            x.add(0, 149, 5);
            Edge.figures(x, 0, 100, 55, 155, 200);
            Edge.figures(x, 1, 155, 50, 205, 255);
            x.vary(0, 0, 0, 98);
            Edge.figures(x, 0, 100, 49, 149, 198);
            Edge.figures(x, 1, 149, 55, 204, 249);
            x.vary(0, 0, 0, 99);
            Edge.figures(x, 0, 100, 55, 155, 199);
            Edge.states(x, 0, 149, "p");
        });
        Sentence.of(11, "Returns the length of the term then from the day of its passing.", () -> {
            Termreckonry x = Edge.one('d', 0, 60);
            x.warrant(0, 'd', 0, 31, 0, 0, 1, 0);
            x.warrant(0, 's', 0, 31, 0, 0, 1, -1);
            x.activate(2, 60);
            // day 31 is the first of February, day 60 the first of March 2000
            Check.is("behind another one", 29, () -> x.vary(1, 0, 1, 0));
            Check.is("it begins later", 31, () -> x.needed(1));
            Check.is("made to run later", 29, () -> x.vary(2, 0, 1, 0));
            Check.is("its length then: half of 31", 16, () -> x.needed(2));
            x.quash(1);
            Check.is("quashed", 366, () -> x.vary(1, 1, 0, 0));
            Check.is("the longest", 24944, () -> Edge.one('f', 19999, 1).vary(0, 40, 11, 9999));
            Check.is("not from the offence", 29, () -> {
                Termreckonry y = Edge.persons(1);
                y.warrant(0, 'f', 0, 31, 0, 0, 1, -1);
                return y.vary(0, 0, 1, 0);
            });
        });
    }

    private static void quash() {
        Sentence.of(12, "Returns whether it was not quashed.", () -> {
            Termreckonry x = Edge.one('f', 0, 1);
            x.warrant(0, 's', 0, 0, 0, 0, 1, -1);
            Check.is("the first time", true, () -> x.quash(0));
            Check.is("the second time", false, () -> x.quash(0));
            Check.is("the third time", false, () -> x.quash(0));
            Check.is("the other one", true, () -> x.quash(1));
            Check.is("again", false, () -> x.quash(1));
        });
        Sentence.of(12, "Throws `IndexOutOfBoundsException` if there is no such warrant", () -> {
            Edge.numbered("without any", 0, n -> Edge.persons(1).quash(n));
            Edge.numbered("of one", 1, n -> Edge.one('f', 0, 1).quash(n));
            Edge.numbered("of 24", 24, n -> Edge.full().quash(n));
        });
    }

    private static void approve() {
        Sentence.of(13, "- `day`: the day, 0 to 19999",
                () -> Edge.range("day", 0, 19999, n -> Edge.one('l', 0, 1).approve(0, n)));
        Sentence.of(13, "in place of an earlier one", () -> {
            Termreckonry x = Edge.one('l', 100, 10);
            x.approve(0, 500);
            x.approve(0, 300);
            Check.is("an earlier day", 300, () -> x.release(0));
            x.approve(0, 700);
            Check.is("a later day", 700, () -> x.release(0));
        });
        Sentence.of(13, "Returns the day told before, or -1.", () -> {
            Termreckonry x = Edge.one('f', 100, 10);
            int[] told = {0, 19999, 5, 5, 0};
            int[] due = {-1, 0, 19999, 5, 5};
            for (int n = 0; n < told.length; n++) {
                int day = told[n];
                Check.is("told " + n, due[n], () -> x.approve(0, day));
            }
            x.warrant(0, 'l', 0, 0, 0, 0, 1, -1);
            Check.is("of another one", -1, () -> x.approve(1, 3));
        });
        Sentence.of(13, "Throws `IndexOutOfBoundsException` if there is no such warrant", () -> {
            Edge.numbered("without any", 0, n -> Edge.persons(1).approve(n, 0));
            Edge.numbered("of one", 1, n -> Edge.one('f', 0, 1).approve(n, 0));
            Edge.numbered("of 24", 24, n -> Edge.full().approve(n, 0));
        });
        Sentence.of(13, "Throws `IllegalArgumentException` if a number is out of range", () -> {
            Termreckonry x = Edge.one('l', 0, 1);
            Check.fails("-1", Edge.ARGUMENT, () -> x.approve(0, -1));
            Check.fails("20000", Edge.ARGUMENT, () -> x.approve(0, 20000));
            Check.is("nothing was told", -1, () -> x.approve(0, 0));
        });
    }

    // ---- added days

    private static void add() {
        Sentence.of(14, "- `day`: the day, 0 to 19999",
                () -> Edge.range("day", 0, 19999, n -> Edge.persons(1).add(0, n, 1)));
        Sentence.of(14, "- `days`: how many, 1 to 200", () -> {
            Edge.range("days", 1, 200, n -> Edge.persons(1).add(0, 0, n));
            Termreckonry x = Edge.one('f', 0, 999);
            x.add(0, 0, 1);
            Check.is("the least", 501, () -> x.needed(0));
            x.add(0, 0, 200);
            Check.is("the most", 701, () -> x.needed(0));
        });
        Sentence.of(14, "Returns the number of this, from 0 over all persons.", () -> {
            Termreckonry x = Edge.persons(6);
            for (int n = 0; n < 30; n++) {
                int number = n;
                Check.is("added", number, () -> x.add((number * 5 + 3) % 6, 19999 - number, 1 + number));
            }
            for (int n = 0; n < 30; n++) {
                int number = n;
                Check.is("left of " + n, 0, () -> x.giveBack(number, 1 + number));
            }
            Termreckonry y = Edge.one('f', 0, 9999);
            for (int n = 0; n < 30; n++) {
                y.add(0, 3000 - 100 * n, n + 1);
            }
            Check.is("30 for one person", 5000 + 465, () -> y.needed(0));
            y.giveBack(29, 30);
            y.giveBack(0, 1);
            Check.is("without the first and the last", 5000 + 434, () -> y.needed(0));
        });
    }

    private static void addLimits() {
        Sentence.of(14, "Throws `IndexOutOfBoundsException` if there is no such person", () -> {
            Edge.numbered("nobody", 0, n -> new Termreckonry().add(n, 0, 1));
            Edge.numbered("one", 1, n -> Edge.persons(1).add(n, 0, 1));
            Edge.numbered("6", 6, n -> Edge.persons(6).add(n, 0, 1));
        });
        Sentence.of(14, "Throws `IllegalArgumentException` if a number is out of range", () -> {
            Termreckonry x = Edge.one('f', 0, 100);
            Check.fails("day -1", Edge.ARGUMENT, () -> x.add(0, -1, 1));
            Check.fails("day 20000", Edge.ARGUMENT, () -> x.add(0, 20000, 1));
            Check.fails("0 days", Edge.ARGUMENT, () -> x.add(0, 0, 0));
            Check.fails("201 days", Edge.ARGUMENT, () -> x.add(0, 0, 201));
            Check.is("nothing was added", 50, () -> x.needed(0));
            Check.is("nor numbered", 0, () -> x.add(0, 0, 1));
        });
        Sentence.of(14, "Throws `IllegalStateException` if there are 30", () -> {
            Termreckonry x = Edge.persons(2);
            for (int n = 0; n < 29; n++) {
                x.add(n % 2, 0, 1);
            }
            Check.is("there are 29", 29, () -> x.add(0, 0, 1));
            Check.fails("there are 30", Edge.STATE, () -> x.add(0, 0, 1));
            x.giveBack(7, 1);
            Check.fails("given back, they are there still", Edge.STATE, () -> x.add(1, 0, 1));
        });
    }

    private static Termreckonry added(int days) {
        Termreckonry x = Edge.persons(1);
        x.add(0, 0, days);
        return x;
    }

    private static void giveBack() {
        Sentence.of(15, "- `days`: how many, 1 or more", () -> {
            Edge.taken("days", n -> added(200).giveBack(0, n), 1, 2, 199, 200);
            Edge.refused("days", Edge.ARGUMENT, n -> added(200).giveBack(0, n), 0, -1, -200, Integer.MIN_VALUE);
        });
        Sentence.of(15, "Returns how many are left of them.", () -> {
            Termreckonry x = added(10);
            x.add(0, 0, 20);
            Check.is("10 less 1", 9, () -> x.giveBack(0, 1));
            Check.is("less 7", 2, () -> x.giveBack(0, 7));
            Check.is("of the others", 1, () -> x.giveBack(1, 19));
            Check.is("less 2", 0, () -> x.giveBack(0, 2));
        });
        Sentence.of(15, "Throws `IndexOutOfBoundsException` if there are no such ones", () -> {
            Edge.numbered("none", 0, n -> Edge.persons(1).giveBack(n, 1));
            Edge.numbered("one", 1, n -> added(1).giveBack(n, 1));
            Edge.numbered("30", 30, n -> Edge.full().giveBack(n, 1));
        });
        Sentence.of(15, "Throws `IllegalArgumentException` if there are not so many left", () -> {
            Termreckonry x = added(10);
            Check.fails("11 of 10", Edge.ARGUMENT, () -> x.giveBack(0, 11));
            Check.fails("very many", Edge.ARGUMENT, () -> x.giveBack(0, Integer.MAX_VALUE));
            Check.is("4 of 10", 6, () -> x.giveBack(0, 4));
            Check.fails("7 of 6", Edge.ARGUMENT, () -> x.giveBack(0, 7));
            Check.is("6 of 6", 0, () -> x.giveBack(0, 6));
            Check.fails("1 of none", Edge.ARGUMENT, () -> x.giveBack(0, 1));
        });
    }

    // ---- at large, recalls

    private static void atLarge() {
        Sentence.of(16, "- `from`: the first day, 0 to 19999",
                () -> Edge.range("from", 0, 19999, n -> Edge.persons(1).atLarge(0, n, 20000)));
        Sentence.of(16, "- `to`: the day behind the last one, later, at most 20000", () -> {
            Edge.range("to, from 0", 1, 20000, n -> Edge.persons(1).atLarge(0, 0, n));
            Edge.range("to, from 700", 701, 20000, n -> Edge.persons(1).atLarge(0, 700, n));
            Check.is("one day", 1, () -> Edge.persons(1).atLarge(0, 19999, 20000));
            Termreckonry x = Edge.one('d', 0, 9999);
            x.atLarge(0, 10, 12);
            Edge.states(x, 0, 9, "paap");
        });
        Sentence.of(16, "Returns on how many days the person was at large in all, each once.", () -> {
            Termreckonry x = Edge.persons(2);
            int[][] told = {{10, 20, 10}, {10, 20, 10}, {15, 25, 15}, {5, 11, 20}, {12, 13, 20}, {0, 1, 21},
                {19999, 20000, 22}, {63, 65, 24}, {64, 128, 87}, {127, 129, 88}, {19900, 20000, 187},
                {0, 20000, 20000}, {3, 4, 20000}};
            for (int[] t : told) {
                Check.is(t[0] + " up to " + t[1], t[2], () -> x.atLarge(0, t[0], t[1]));
            }
            Check.is("the other person", 1, () -> x.atLarge(1, 3, 4));
            Check.is("held is not at large", 5, () -> x.held(1, 3, 8));
        });
        Sentence.of(16, "Throws `IndexOutOfBoundsException` if there is no such person", () -> {
            Edge.numbered("nobody", 0, n -> new Termreckonry().atLarge(n, 0, 1));
            Edge.numbered("one", 1, n -> Edge.persons(1).atLarge(n, 0, 1));
            Edge.numbered("6", 6, n -> Edge.persons(6).atLarge(n, 0, 1));
        });
        Sentence.of(16, "Throws `IllegalArgumentException` if a number is out of range", () -> {
            Termreckonry x = Edge.persons(1);
            int[][] wrong = {{-1, 5}, {5, 5}, {5, 4}, {5, 20001}, {20000, 20001}, {20000, 20000}, {-5, -3}, {0, 0},
                {Integer.MAX_VALUE, Integer.MIN_VALUE}, {Integer.MIN_VALUE, Integer.MAX_VALUE}};
            for (int[] w : wrong) {
                Check.fails(w[0] + " up to " + w[1], Edge.ARGUMENT, () -> x.atLarge(0, w[0], w[1]));
            }
            Check.is("nothing was told", 1, () -> x.atLarge(0, 0, 1));
        });
    }

    private static void recall() {
        Sentence.of(17, "- `day`: the day, 0 to 19999", () -> {
            // for ever on licence from the day 0 on, as nothing is needed
            Edge.range("day", 0, 19999, n -> {
                Termreckonry x = Edge.one('l', 0, 1);
                x.count(0, 1, false);
                x.approve(0, 0);
                return x.recall(0, n, 'f');
            });
        });
        Sentence.of(17, "- `kind`: 'f' or 's'",
                () -> Edge.letters("kind", "fs", c -> Edge.onLicence().recall(0, 150, c)));
        Sentence.of(17, "Returns how many recalls of this person there were.", () -> {
            Termreckonry x = Edge.persons(2);
            for (int p = 0; p < 2; p++) {
                x.warrant(p, 'l', 0, 0, 0, 0, 1, -1);
                x.approve(p, 0);
            }
            Check.is("the first", 1, () -> x.recall(0, 100, 'f'));
            Check.is("the second", 2, () -> x.recall(0, 50, 'f'));
            Check.is("the other's first", 1, () -> x.recall(1, 50, 's'));
            x.letGo(0, 50);
            Check.is("one that never went on counts", 3, () -> x.recall(0, 50, 's'));
            x.quash(0);
            x.warrant(0, 'f', 0, 300, 0, 0, 10, -1);
            Check.is("those that ended count", 4, () -> x.recall(0, 309, 's'));
        });
    }

    private static void recallRefused() {
        Sentence.of(17, "Throws `IndexOutOfBoundsException` if there is no such person", () -> {
            Edge.numbered("nobody", 0, n -> new Termreckonry().recall(n, 150, 'f'));
            Edge.numbered("one", 1, n -> Edge.onLicence().recall(n, 150, 'f'));
            Edge.refused("6", Edge.INDEX, n -> Edge.full().recall(n, 150, 'f'), -1, 6, 7);
        });
        Sentence.of(17, "Throws `IllegalArgumentException` if the day is out of range, or there is no such kind", () -> {
            Check.fails("day -1", Edge.ARGUMENT, () -> Edge.onLicence().recall(0, -1, 'f'));
            Check.fails("day 20000", Edge.ARGUMENT, () -> Edge.onLicence().recall(0, 20000, 's'));
            Check.fails("kind", Edge.ARGUMENT, () -> Edge.onLicence().recall(0, 150, 'd'));
        });
        Sentence.of(17, "Throws `UnsupportedOperationException` if the state on this day is not 'l'", () -> {
            Termreckonry x = Edge.onLicence();
            Check.fails("'o'", Edge.UNSUPPORTED, () -> x.recall(0, 99, 'f'));
            Check.fails("'p'", Edge.UNSUPPORTED, () -> x.recall(0, 149, 'f'));
            Check.fails("'o' again", Edge.UNSUPPORTED, () -> x.recall(0, 200, 'f'));
            Check.is("'l' on the last day of the licence", 1, () -> x.recall(0, 199, 'f'));
            Check.fails("'r'", Edge.UNSUPPORTED, () -> x.recall(0, 199, 'f'));
            Check.is("'l' on its first day", 2, () -> x.recall(0, 150, 's'));
            x.atLarge(0, 160, 161);
            Check.fails("'a'", Edge.UNSUPPORTED, () -> x.recall(0, 160, 'f'));
        });
        Sentence.of(17, "Throws `IllegalStateException` if there are 20 of all persons", () -> {
            Termreckonry x = Edge.persons(2);
            for (int p = 0; p < 2; p++) {
                x.warrant(p, 'l', 0, 0, 0, 0, 1, -1);
                x.approve(p, 0);
            }
            for (int n = 0; n < 19; n++) {
                int many = n / 2 + 1;
                int person = n % 2;
                Check.is("recall", many, () -> x.recall(person, 100 * many, 'f'));
            }
            Check.is("there are 19", 10, () -> x.recall(1, 1000, 'f'));
            Check.fails("there are 20", Edge.STATE, () -> x.recall(0, 5000, 'f'));
            Check.fails("there are 20, for the other", Edge.STATE, () -> x.recall(1, 5000, 's'));
            Check.is("let go, one is there still", 1000, () -> x.letGo(1, 1000));
            Check.fails("there are 20 still", Edge.STATE, () -> x.recall(1, 1000, 's'));
        });
    }

    private static void letGo() {
        Sentence.of(18, "- `day`: the day, 0 to 19999", () -> {
            Edge.refused("day", Edge.ARGUMENT, n -> Edge.onLicence().letGo(0, n), -1, 20000, Integer.MIN_VALUE,
                    Integer.MAX_VALUE);
            Termreckonry x = Edge.one('f', 0, 3);
            x.count(0, 2, false);
            x.recall(0, 0, 's');
            Check.is("on the day 0", 0, () -> x.letGo(0, 0));
            Edge.states(x, 0, 0, "lo");
            Termreckonry y = Edge.onLicenceForEver();
            y.recall(0, 19999, 's');
            Check.is("on the day 19999", 19999, () -> y.letGo(0, 19999));
            Edge.states(y, 0, 19998, "ll");
        });
        Sentence.of(18, "from this day on, this one included", () -> {
            Termreckonry x = Edge.onLicence();
            x.recall(0, 160, 's');
            x.letGo(0, 170);
            Edge.states(x, 0, 168, "rrll");
        });
        Sentence.of(18, "of several recalls that go on, by the one that was told first", () -> {
            Termreckonry x = Edge.onLicence();
            x.recall(0, 170, 's');
            x.recall(0, 160, 's');
            Check.is("told first, of a later day", 170, () -> x.letGo(0, 180));
            Edge.states(x, 0, 179, "rr");
            Check.is("the other", 160, () -> x.letGo(0, 180));
            Edge.states(x, 0, 179, "rl");
            Check.is("both went on ahead of that: the first again", 170, () -> x.letGo(0, 175));
            Termreckonry y = Edge.onLicenceForEver();
            for (int n = 0; n < 20; n++) {
                y.recall(0, 500 - 10 * n, 's');
            }
            for (int n = 0; n < 20; n++) {
                int since = 500 - 10 * n;
                Check.is("the next of 20", since, () -> y.letGo(0, 600));
            }
            Edge.states(y, 0, 599, "rl");
            Check.fails("all of 20", Edge.UNSUPPORTED, () -> y.letGo(0, 600));
            Check.is("only the other goes on", 160, () -> x.letGo(0, 169));
            Edge.states(x, 0, 168, "rl");
            Check.is("nor this one then", 'r', () -> x.stateOn(0, 170));
        });
        Sentence.of(18, "Returns since which day the recall went on.", () -> {
            for (int day : new int[] {150, 160, 199}) {
                Termreckonry x = Edge.onLicence();
                x.recall(0, day, 'f');
                Check.is("since " + day, day, () -> x.letGo(0, Math.min(199, day + 27)));
            }
        });
    }

    private static void letGoRefused() {
        Sentence.of(18, "Throws `IndexOutOfBoundsException` if there is no such person", () -> {
            Edge.numbered("nobody", 0, n -> new Termreckonry().letGo(n, 150));
            Edge.numbered("one", 1, n -> {
                Termreckonry x = Edge.onLicence();
                x.recall(0, 150, 's');
                return x.letGo(n, 150);
            });
            Edge.refused("6", Edge.INDEX, n -> Edge.full().letGo(n, 150), -1, 6, 7);
        });
        Sentence.of(18, "Throws `IllegalArgumentException` if a number is out of range", () -> {
            Termreckonry x = Edge.onLicenceForEver();
            x.recall(0, 10, 's');
            Check.fails("-1", Edge.ARGUMENT, () -> x.letGo(0, -1));
            Check.fails("20000", Edge.ARGUMENT, () -> x.letGo(0, 20000));
            Edge.states(x, 0, 19999, "r");
        });
        Sentence.of(18, "Throws `UnsupportedOperationException` if no recall goes on on this day", () -> {
            Termreckonry x = Edge.onLicence();
            Check.fails("none was told", Edge.UNSUPPORTED, () -> x.letGo(0, 160));
            x.recall(0, 160, 'f');
            Check.fails("a day ahead of it", Edge.UNSUPPORTED, () -> x.letGo(0, 159));
            Check.fails("when it has ended", Edge.UNSUPPORTED, () -> x.letGo(0, 188));
            Check.is("on its last day", 160, () -> x.letGo(0, 187));
            Check.fails("let go already", Edge.UNSUPPORTED, () -> x.letGo(0, 187));
            Check.is("on its first day", 160, () -> x.letGo(0, 160));
            Check.fails("it goes on no more", Edge.UNSUPPORTED, () -> x.letGo(0, 160));
            x.recall(0, 199, 's');
            Check.fails("the licence has ended", Edge.UNSUPPORTED, () -> x.letGo(0, 200));
            x.person();
            Check.fails("only another's goes on", Edge.UNSUPPORTED, () -> x.letGo(1, 199));
            x.atLarge(0, 199, 200);
            Check.is("at large it goes on, too", 199, () -> x.letGo(0, 199));
            Termreckonry y = Edge.onLicence();
            y.recall(0, 160, 's');
            y.warrant(0, 'd', 0, 165, 0, 0, 10, -1);
            Check.is("in prison it goes on, too", 160, () -> y.letGo(0, 170));
        });
    }
}

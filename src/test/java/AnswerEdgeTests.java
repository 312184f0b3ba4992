/** Each range, answer and exception of the promises 19 to 33 has a test of its own. */
public final class AnswerEdgeTests {
    private AnswerEdgeTests() {
    }

    public static void main(String[] args) {
        begins();
        needed();
        release();
        end();
        stateOn();
        byClerk();
        keeper();
        keeperRefused();
        held();
        tooLong();
        tooShort();
        warrants();
        owed();
        prisonShare();
        meanNeeded();
        isTrue();
        Sentence.allOfPromises(19, 33);
        Check.end("AnswerEdgeTests");
    }

    private static void noSuchWarrant(Edge.WithOffice call) {
        Edge.numbered("without any", 0, n -> call.answer(Edge.persons(1), n));
        Edge.numbered("of one", 1, n -> call.answer(Edge.one('f', 100, 40), n));
        Edge.refused("of 24", Edge.INDEX, n -> call.answer(Edge.full(), n), -1, 24, 25);
        Edge.refused("of 24", Edge.ELEMENT, n -> call.answer(Edge.full(), n), 23);
    }

    private static void noSuchPerson(Edge.WithOffice call) {
        Edge.numbered("nobody", 0, n -> call.answer(new Termreckonry(), n));
        Edge.numbered("one", 1, n -> call.answer(Edge.persons(1), n));
        Edge.numbered("6", 6, n -> call.answer(Edge.persons(6), n));
    }

    // ---- one warrant

    private static void begins() {
        Sentence.of(19, "Returns the day.", () -> {
            Check.is("the first day", 0, () -> Edge.one('f', 0, 1).begins(0));
            Check.is("the last day", 19999, () -> Edge.one('f', 19999, 1).begins(0));
            Termreckonry x = Edge.onLicence();
            x.warrant(0, 'd', 0, 0, 0, 0, 1, 0);
            Check.is("behind", 150, () -> x.begins(1));
        });
        Sentence.of(19, "Throws `IndexOutOfBoundsException` if there is no such warrant",
                () -> noSuchWarrant(Termreckonry::begins));
        Sentence.of(19, "Throws `NoSuchElementException` if it counts for nothing, or never begins",
                () -> beginsNever(Termreckonry::begins));
    }

    /** Suspended, quashed, and behind one without a release; the last two begin when these are mended. */
    private static void beginsNever(Edge.WithOffice call) {
        Termreckonry x = Edge.persons(1);
        x.warrant(0, 's', 100, 100, 0, 0, 40, -1);
        x.warrant(0, 'l', 100, 100, 0, 0, 40, -1);
        x.warrant(0, 'd', 100, 100, 0, 0, 40, 1);
        x.warrant(0, 'd', 100, 100, 0, 0, 40, 2);
        x.warrant(0, 'd', 100, 100, 0, 0, 40, -1);
        x.quash(4);
        Check.fails("suspended", Edge.ELEMENT, () -> call.answer(x, 0));
        Check.fails("behind one without a release", Edge.ELEMENT, () -> call.answer(x, 2));
        Check.fails("behind that", Edge.ELEMENT, () -> call.answer(x, 3));
        Check.fails("quashed", Edge.ELEMENT, () -> call.answer(x, 4));
        x.activate(0, 19000);
        x.approve(1, 18000);
        Edge.taken("now it does", n -> call.answer(x, n), 0, 2, 3);
        x.approve(1, 19999);
        x.quash(0);
        Check.fails("quashed, though it ran", Edge.ELEMENT, () -> call.answer(x, 0));
        Check.fails("behind one that is released on the last day, and that behind it", Edge.ELEMENT,
                () -> call.answer(x, 3));
    }

    private static void needed() {
        Sentence.of(20, "Returns the days, with added ones.", () -> {
            Termreckonry x = Edge.onLicence();
            Check.is("without any", 50, () -> x.needed(0));
            x.add(0, 100, 1);
            Check.is("with one", 51, () -> x.needed(0));
            x.count(0, 49, false);
            Check.is("1 and one added", 2, () -> x.needed(0));
            x.count(0, 1, false);
            // released on the day 100, ahead of the added one
            Check.is("none", 0, () -> x.needed(0));
            Check.is("the most", 24944, () -> {
                Termreckonry y = Edge.persons(1);
                y.warrant(0, 'd', 0, 19999, 40, 11, 9999, -1);
                return y.needed(0);
            });
        });
        Sentence.of(20, "Throws `IndexOutOfBoundsException` if there is no such warrant",
                () -> noSuchWarrant(Termreckonry::needed));
        Sentence.of(20, "Throws `NoSuchElementException` if it counts for nothing, or never begins",
                () -> beginsNever(Termreckonry::needed));
    }

    private static void release() {
        Sentence.of(21, "Returns the day.", () -> {
            Check.is("the last day", 19999, () -> Edge.one('d', 19998, 1).release(0));
            Check.is("the day 1", 1, () -> Edge.one('d', 0, 1).release(0));
            Termreckonry x = Edge.one('d', 0, 1);
            x.count(0, 1, false);
            Check.is("the day 0", 0, () -> x.release(0));
        });
        Sentence.of(21, "Throws `IndexOutOfBoundsException` if there is no such warrant",
                () -> noSuchWarrant(Termreckonry::release));
        Sentence.of(21, "Throws `NoSuchElementException` if it counts for nothing, never begins, or there is none", () -> {
            beginsNever(Termreckonry::release);
            Check.fails("none, by the days", Edge.ELEMENT, () -> Edge.one('d', 19999, 1).release(0));
            Check.fails("none, without a yes", Edge.ELEMENT, () -> Edge.one('l', 0, 1).release(0));
            Termreckonry x = Edge.one('l', 0, 1);
            x.warrant(0, 'd', 0, 0, 0, 0, 1, 0);
            Check.fails("never begins", Edge.ELEMENT, () -> x.release(1));
            x.approve(0, 19998);
            Check.is("begins", 19999, () -> x.release(1));
            Termreckonry y = Edge.one('d', 0, 1);
            y.atLarge(0, 0, 20000);
            Check.fails("always at large", Edge.ELEMENT, () -> y.release(0));
        });
    }

    private static void end() {
        Sentence.of(22, "Returns the day behind the last one of the licence.", () -> {
            Termreckonry x = Edge.onLicence();
            Check.is("the end", 200, () -> x.end(0));
            Edge.states(x, 0, 199, "lo");
            Check.is("behind the last day of all", 20001, () -> {
                Termreckonry y = Edge.one('f', 19997, 4);
                Edge.states(y, 0, 19998, "pl");
                return y.end(0);
            });
            Check.is("of one day", 2, () -> Edge.one('f', 0, 2).end(0));
            Check.is("on the day 0", 1, () -> {
                Termreckonry y = Edge.one('f', 0, 2);
                y.count(0, 1, false);
                return y.end(0);
            });
        });
        Sentence.of(22, "Throws `IndexOutOfBoundsException` if there is no such warrant",
                () -> noSuchWarrant(Termreckonry::end));
        Sentence.of(22, "Throws `NoSuchElementException` if it has no licence, or one for ever", () -> {
            Check.fails("of one day, all of it needed", Edge.ELEMENT, () -> Edge.one('f', 0, 1).end(0));
            Check.fails("in default", Edge.ELEMENT, () -> Edge.one('d', 0, 2).end(0));
            Check.fails("for ever", Edge.ELEMENT, () -> Edge.onLicenceForEver().end(0));
            Check.fails("for life, without a release", Edge.ELEMENT, () -> Edge.one('l', 0, 1).end(0));
            Check.fails("suspended", Edge.ELEMENT, () -> Edge.one('s', 0, 2).end(0));
            Check.fails("no release", Edge.ELEMENT, () -> Edge.one('f', 19999, 3).end(0));
            Termreckonry x = Edge.onLicence();
            x.quash(0);
            Check.fails("quashed", Edge.ELEMENT, () -> x.end(0));
            Termreckonry y = Edge.onLicence();
            y.count(0, 99, false);
            Check.is("a day is left", 101, () -> y.end(0));
            y.count(0, 1, false);
            Check.fails("none is left", Edge.ELEMENT, () -> y.end(0));
            Termreckonry z = Edge.one('l', 0, 1);
            z.warrant(0, 'f', 0, 0, 0, 0, 10, 0);
            Check.fails("never begins", Edge.ELEMENT, () -> z.end(1));
        });
    }

    // ---- states

    private static void stateOn() {
        Sentence.of(23, "- `day`: the day, 0 to 19999",
                () -> Edge.range("day", 0, 19999, n -> Edge.persons(1).stateOn(0, n)));
        Sentence.of(23, "Returns the letter.", () -> letters(Termreckonry::stateOn));
        Sentence.of(23, "Throws `IndexOutOfBoundsException` if there is no such person",
                () -> noSuchPerson((x, n) -> x.stateOn(n, 0)));
        Sentence.of(23, "Throws `IllegalArgumentException` if a number is out of range",
                () -> wrongDays((x, n) -> x.stateOn(0, n), -1, 20000));
    }

    private static void byClerk() {
        Sentence.of(24, "- `day`: the day, 0 to 19999",
                () -> Edge.range("day", 0, 19999, n -> Edge.persons(1).byClerk(0, n)));
        Sentence.of(24, "Returns the letter.", () -> letters(Termreckonry::byClerk));
        Sentence.of(24, "Throws `IndexOutOfBoundsException` if there is no such person",
                () -> noSuchPerson((x, n) -> x.byClerk(n, 0)));
        Sentence.of(24, "Throws `IllegalArgumentException` if a number is out of range",
                () -> wrongDays((x, n) -> x.byClerk(0, n), -1, 20000));
    }

    /** How a state is asked for. */
    private interface State {
        char on(Termreckonry x, int person, int day);
    }

    private static void letters(State state) {
        Termreckonry x = Edge.onLicence();
        x.recall(0, 160, 's');
        x.atLarge(0, 120, 121);
        x.atLarge(0, 170, 171);
        x.letGo(0, 180);
        int[] days = {0, 99, 100, 119, 120, 121, 150, 151, 159, 160, 169, 170, 171, 179, 180, 200, 201, 19999};
        String due = "ooppappllrrarrlloo";
        for (int n = 0; n < days.length; n++) {
            int day = days[n];
            Check.is("on " + day, due.charAt(n), () -> state.on(x, 0, day));
        }
        x.person();
        Check.is("another person", 'o', () -> state.on(x, 1, 120));
        x.warrant(1, 'd', 0, 19999, 0, 0, 1, -1);
        Check.is("in prison on the last day", 'p', () -> state.on(x, 1, 19999));
        Check.is("not ahead of it", 'o', () -> state.on(x, 1, 19998));
        x.atLarge(1, 19999, 20000);
        Check.is("at large on the last day", 'a', () -> state.on(x, 1, 19999));
    }

    private static void wrongDays(Edge.WithOffice call, int below, int above) {
        Termreckonry x = Edge.onLicence();
        Edge.refused("day", Edge.ARGUMENT, n -> call.answer(x, n), below, above, Integer.MIN_VALUE, Integer.MAX_VALUE);
    }

    // ---- who keeps

    private static void keeper() {
        Sentence.of(25, "- `day`: the day, 0 to 19999", () -> {
            Termreckonry x = Edge.one('l', 0, 1);
            Edge.range("day", 0, 19999, n -> x.keeper(0, n));
        });
        Sentence.of(25, "at large or not", () -> {
            Termreckonry x = Edge.one('d', 100, 10);
            x.atLarge(0, 100, 103);
            Check.is("at large", 0, () -> x.keeper(0, 100));
            Check.is("not at large", 0, () -> x.keeper(0, 112));
            Check.fails("released", Edge.ELEMENT, () -> x.keeper(0, 113));
        });
        Sentence.of(25, "that whose release is the latest", () -> {
            Termreckonry x = Edge.one('d', 100, 11);
            x.warrant(0, 'd', 0, 100, 0, 0, 12, -1);
            x.warrant(0, 'd', 0, 100, 0, 0, 10, -1);
            x.warrant(0, 'd', 0, 101, 0, 0, 900, -1);
            Check.is("the second", 1, () -> x.keeper(0, 100));
            Check.is("the fourth has begun", 3, () -> x.keeper(0, 101));
        });
        Sentence.of(25, "none being later than all", () -> {
            Termreckonry x = Edge.one('d', 0, 9999);
            x.warrant(0, 'd', 0, 0, 0, 0, 1, -1);
            x.vary(0, 40, 11, 5054);
            Check.is("released on the last day", 19999, () -> x.release(0));
            x.warrant(0, 'l', 0, 5, 0, 0, 1, -1);
            x.warrant(0, 'd', 0, 0, 40, 11, 5054, -1);
            Check.is("the last day", 0, () -> x.keeper(0, 4));
            Check.is("none", 2, () -> x.keeper(0, 5));
        });
        Sentence.of(25, "of several the lowest one", () -> {
            Termreckonry x = Edge.one('d', 100, 10);
            x.warrant(0, 'd', 0, 101, 0, 0, 9, -1);
            x.warrant(0, 'd', 0, 99, 0, 0, 11, -1);
            Check.is("the third alone", 2, () -> x.keeper(0, 99));
            Check.is("the first of two", 0, () -> x.keeper(0, 100));
            Check.is("the first of three", 0, () -> x.keeper(0, 101));
            x.warrant(0, 'l', 0, 105, 0, 0, 9, -1);
            x.warrant(0, 'l', 0, 105, 0, 0, 1, -1);
            Check.is("the first of two without a release", 3, () -> x.keeper(0, 105));
        });
    }

    private static void keeperRefused() {
        Sentence.of(25, "Returns the warrant.", () -> {
            Termreckonry x = Edge.persons(2);
            for (int n = 0; n < 24; n++) {
                x.warrant(n % 2, 'd', 0, 10 * n, 0, 0, 1, -1);
            }
            for (int n = 0; n < 24; n++) {
                int number = n;
                Check.is("warrant", number, () -> x.keeper(number % 2, 10 * number));
            }
        });
        Sentence.of(25, "Throws `IndexOutOfBoundsException` if there is no such person", () -> {
            Edge.numbered("nobody", 0, n -> new Termreckonry().keeper(n, 0));
            Edge.numbered("one", 1, n -> Edge.one('d', 0, 1).keeper(n, 0));
            Edge.refused("6", Edge.INDEX, n -> Edge.full().keeper(n, 0), -1, 6, 7);
        });
        Sentence.of(25, "Throws `IllegalArgumentException` if a number is out of range",
                () -> wrongDays((x, n) -> x.keeper(0, n), -1, 20000));
        Sentence.of(25, "Throws `NoSuchElementException` if no warrant does", () -> {
            Termreckonry x = Edge.onLicence();
            x.person();
            Check.fails("ahead of it", Edge.ELEMENT, () -> x.keeper(0, 99));
            Check.is("on the first day", 0, () -> x.keeper(0, 100));
            Check.is("on the last day", 0, () -> x.keeper(0, 149));
            Check.fails("on the release", Edge.ELEMENT, () -> x.keeper(0, 150));
            Check.fails("another's", Edge.ELEMENT, () -> x.keeper(1, 100));
            x.recall(0, 160, 's');
            Check.fails("a recall", Edge.ELEMENT, () -> x.keeper(0, 160));
            x.quash(0);
            Check.fails("a quashed one", Edge.ELEMENT, () -> x.keeper(0, 100));
            x.warrant(1, 's', 0, 100, 0, 0, 10, -1);
            Check.fails("a suspended one", Edge.ELEMENT, () -> x.keeper(1, 100));
            x.warrant(0, 'l', 0, 0, 0, 0, 1, -1);
            x.warrant(0, 'd', 0, 0, 0, 0, 9, 2);
            x.quash(2);
            Check.is("behind a quashed one", 3, () -> x.keeper(0, 8));
            Check.fails("released behind that", Edge.ELEMENT, () -> x.keeper(0, 9));
        });
    }

    // ---- really held

    private static void held() {
        Sentence.of(26, "- `from`: the first day, 0 to 19999",
                () -> Edge.range("from", 0, 19999, n -> Edge.persons(1).held(0, n, 20000)));
        Sentence.of(26, "- `to`: the day behind the last one, later, at most 20000", () -> {
            Edge.range("to, from 0", 1, 20000, n -> Edge.persons(1).held(0, 0, n));
            Edge.range("to, from 700", 701, 20000, n -> Edge.persons(1).held(0, 700, n));
            Check.is("one day", 1, () -> Edge.persons(1).held(0, 19999, 20000));
        });
        Sentence.of(26, "Returns on how many days the person was held in all, each once.", () -> {
            Termreckonry x = Edge.persons(2);
            int[][] told = {{10, 20, 10}, {10, 20, 10}, {15, 25, 15}, {5, 11, 20}, {12, 13, 20}, {0, 1, 21},
                {19999, 20000, 22}, {63, 65, 24}, {64, 128, 87}, {127, 129, 88}, {0, 20000, 20000}, {3, 4, 20000}};
            for (int[] t : told) {
                Check.is(t[0] + " up to " + t[1], t[2], () -> x.held(0, t[0], t[1]));
            }
            Check.is("the other person", 1, () -> x.held(1, 3, 4));
            Check.is("at large is not held", 5, () -> x.atLarge(1, 3, 8));
        });
        Sentence.of(26, "Throws `IndexOutOfBoundsException` if there is no such person",
                () -> noSuchPerson((x, n) -> x.held(n, 0, 1)));
        Sentence.of(26, "Throws `IllegalArgumentException` if a number is out of range", () -> {
            Termreckonry x = Edge.persons(1);
            int[][] wrong = {{-1, 5}, {5, 5}, {5, 4}, {5, 20001}, {20000, 20001}, {20000, 20000}, {0, 0},
                {Integer.MAX_VALUE, Integer.MIN_VALUE}, {Integer.MIN_VALUE, Integer.MAX_VALUE}};
            for (int[] w : wrong) {
                Check.fails(w[0] + " up to " + w[1], Edge.ARGUMENT, () -> x.held(0, w[0], w[1]));
            }
            Check.is("nothing was told", 1, () -> x.held(0, 0, 1));
        });
    }

    private static void tooLong() {
        String before = "- `before`: the day up to which they are counted, itself not, 0 to 20000";
        Sentence.of(27, before, () -> {
            Edge.range("before", 0, 20000, n -> Edge.persons(1).tooLong(0, n));
            Termreckonry x = Edge.persons(1);
            x.held(0, 0, 20000);
            for (int n : new int[] {0, 1, 2, 63, 64, 65, 128, 19967, 19968, 19969, 19999, 20000}) {
                Check.is("before " + n, n, () -> x.tooLong(0, n));
            }
        });
        Sentence.of(27, "Returns how many.", () -> {
            Termreckonry x = Edge.onLicence();
            x.held(0, 99, 101);
            Check.is("one ahead", 1, () -> x.tooLong(0, 20000));
            x.held(0, 149, 151);
            Check.is("and one on licence", 2, () -> x.tooLong(0, 20000));
            x.held(0, 200, 201);
            Check.is("and one behind it", 3, () -> x.tooLong(0, 20000));
            x.person();
            x.held(1, 99, 201);
            Check.is("another person, who has never been due", 102, () -> x.tooLong(1, 20000));
            x.quash(0);
            Check.is("quashed: all that was held", 5, () -> x.tooLong(0, 20000));
        });
        Sentence.of(27, "Throws `IndexOutOfBoundsException` if there is no such person",
                () -> noSuchPerson((x, n) -> x.tooLong(n, 0)));
        Sentence.of(27, "Throws `IllegalArgumentException` if a number is out of range",
                () -> wrongDays((x, n) -> x.tooLong(0, n), -1, 20001));
    }

    private static void tooShort() {
        String before = "- `before`: the day up to which they are counted, itself not, 0 to 20000";
        Sentence.of(28, before, () -> {
            Edge.range("before", 0, 20000, n -> Edge.persons(1).tooShort(0, n));
            Termreckonry x = Edge.one('l', 0, 1);
            for (int n : new int[] {0, 1, 2, 63, 64, 65, 128, 19967, 19968, 19969, 19999, 20000}) {
                Check.is("before " + n, n, () -> x.tooShort(0, n));
            }
        });
        Sentence.of(28, "Returns how many.", () -> {
            Termreckonry x = Edge.onLicence();
            x.held(0, 101, 149);
            Check.is("the first and the last day in prison", 2, () -> x.tooShort(0, 20000));
            x.recall(0, 199, 's');
            Check.is("and the one recalled", 3, () -> x.tooShort(0, 20000));
            x.atLarge(0, 199, 200);
            Check.is("who is at large on it", 2, () -> x.tooShort(0, 20000));
            x.person();
            Check.is("another person, who has never been due", 0, () -> x.tooShort(1, 20000));
            x.quash(0);
            Check.is("quashed", 0, () -> x.tooShort(0, 20000));
            x.warrant(1, 'd', 0, 0, 0, 0, 70, -1);
            x.atLarge(1, 0, 1);
            x.atLarge(1, 64, 65);
            Check.is("at large on the first day", 70, () -> x.tooShort(1, 20000));
            Check.is("the first person still owes nothing", 0, () -> x.tooShort(0, 20000));
        });
        Sentence.of(28, "Throws `IndexOutOfBoundsException` if there is no such person",
                () -> noSuchPerson((x, n) -> x.tooShort(n, 0)));
        Sentence.of(28, "Throws `IllegalArgumentException` if a number is out of range",
                () -> wrongDays((x, n) -> x.tooShort(0, n), -1, 20001));
    }

    // ---- sums over all

    private static void warrants() {
        Sentence.of(29, "Returns how many.", () -> {
            Termreckonry x = Edge.persons(2);
            Check.is("none", 0, x::warrants);
            for (int n = 1; n <= 24; n++) {
                x.warrant(n % 2, "flds".charAt(n % 4), 0, 0, 0, 0, 1, -1);
                Check.is("some", n, x::warrants);
            }
            Check.fails("one more", Edge.STATE, () -> x.warrant(0, 'f', 0, 0, 0, 0, 1, -1));
            Check.is("all", 24, x::warrants);
            x.quash(0);
            Check.is("quashed ones, too", 24, x::warrants);
        });
    }

    private static void owed() {
        Sentence.of(30, "Returns the sum of all needed days, those of warrants that count for nothing or never begin left"
                + " out.", () -> {
            Termreckonry x = Edge.persons(2);
            Check.is("no warrant", 0L, x::owed);
            x.warrant(0, 's', 0, 0, 0, 0, 7, -1);
            Check.is("a suspended one", 0L, x::owed);
            x.warrant(1, 'l', 0, 0, 0, 0, 11, -1);
            x.warrant(1, 'd', 0, 0, 0, 0, 13, 1);
            Check.is("one that never begins", 11L, x::owed);
            x.approve(1, 0);
            Check.is("it begins", 24L, x::owed);
            x.activate(0, 3);
            Check.is("it runs", 28L, x::owed);
            x.quash(2);
            Check.is("quashed", 15L, x::owed);
            x.warrant(0, 'd', 0, 19999, 0, 0, 17, -1);
            Check.is("one that begins on the last day", 32L, x::owed);
        });
        Sentence.of(30, "Returns the sum.", () -> {
            Termreckonry x = Edge.persons(6);
            for (int n = 0; n < 24; n++) {
                x.warrant(n % 6, 'd', 0, 0, 40, 11, 9999, -1);
            }
            Check.is("of 24 of the longest", 24L * 24944, x::owed);
            for (int n = 0; n < 24; n++) {
                x.quash(n);
            }
            Check.is("of none", 0L, x::owed);
        });
    }

    private static void prisonShare() {
        Sentence.of(31, "- `day`: the day, 0 to 19999",
                () -> Edge.range("day", 0, 19999, n -> Edge.persons(1).prisonShare(n)));
        Sentence.of(31, "Returns their number divided by that of all persons, both converted to float.", () -> {
            Termreckonry x = Edge.persons(6);
            Check.is("none of 6", 0.0f, () -> x.prisonShare(100));
            for (int n = 0; n < 6; n++) {
                x.warrant(n, 'd', 0, 100, 0, 0, 10, -1);
                float due = (float) (n + 1) / 6.0f;
                Check.is(n + 1 + " of 6", due, () -> x.prisonShare(100));
            }
            Check.is("not yet", 0.0f, () -> x.prisonShare(99));
            Check.is("on the last day", 1.0f, () -> x.prisonShare(109));
            Check.is("no more", 0.0f, () -> x.prisonShare(110));
            x.atLarge(0, 100, 101);
            Check.is("at large is not in prison", 5.0f / 6.0f, () -> x.prisonShare(100));
            Termreckonry y = Edge.onLicence();
            y.recall(0, 160, 's');
            Check.is("on licence", 0.0f, () -> y.prisonShare(159));
            Check.is("recalled", 0.0f, () -> y.prisonShare(160));
        });
        Sentence.of(31, "Throws `IllegalArgumentException` if a number is out of range",
                () -> wrongDays((x, n) -> x.prisonShare(n), -1, 20000));
        Sentence.of(31, "Throws `ArithmeticException` if there are no persons", () -> {
            Termreckonry x = new Termreckonry();
            Check.fails("none", Edge.ARITHMETIC, () -> x.prisonShare(0));
            Check.fails("none on the last day", Edge.ARITHMETIC, () -> x.prisonShare(19999));
            x.person();
            Check.is("one", 0.0f, () -> x.prisonShare(0));
        });
    }

    private static void meanNeeded() {
        Sentence.of(32, "Returns the sum divided by the number of warrants that count and begin, both converted to double.",
                () -> {
            Termreckonry x = Edge.one('d', 0, 1);
            Check.is("1 / 1", 1.0, x::meanNeeded);
            x.warrant(0, 'd', 0, 0, 0, 0, 1, -1);
            x.warrant(0, 'd', 0, 0, 0, 0, 2, -1);
            Check.is("4 / 3", 4.0 / 3.0, x::meanNeeded);
            x.count(1, 1, false);
            Check.is("3 / 3: one that needs none counts", 1.0, x::meanNeeded);
            x.warrant(0, 's', 0, 0, 0, 0, 2, -1);
            x.warrant(0, 'l', 0, 0, 0, 0, 2, -1);
            x.warrant(0, 'd', 0, 0, 0, 0, 2, 4);
            Check.is("5 / 4: one suspended, one that never begins", 1.25, x::meanNeeded);
            x.quash(4);
            Check.is("5 / 4: one quashed, and one begins by that", 1.25, x::meanNeeded);
            x.warrant(0, 'd', 0, 19999, 0, 0, 6, -1);
            Check.is("11 / 5: one that begins on the last day", 2.2, x::meanNeeded);
        });
        Sentence.of(32, "Throws `ArithmeticException` if there are none", () -> {
            Check.fails("no person", Edge.ARITHMETIC, () -> new Termreckonry().meanNeeded());
            Check.fails("no warrant", Edge.ARITHMETIC, () -> Edge.persons(1).meanNeeded());
            Termreckonry x = Edge.one('s', 0, 1);
            Check.fails("a suspended one", Edge.ARITHMETIC, x::meanNeeded);
            x.activate(0, 0);
            Check.is("it runs", 1.0, x::meanNeeded);
            x.quash(0);
            Check.fails("a quashed one", Edge.ARITHMETIC, x::meanNeeded);
            Termreckonry y = Edge.one('d', 0, 1);
            y.count(0, 1, false);
            Check.is("one that needs none", 0.0, y::meanNeeded);
        });
    }

    private static void isTrue() {
        Sentence.of(33, "Checks that the states of all persons on some days, 0, 97, 194 and so on up to 3880, are those by"
                + " the clerk.", () -> {
            Check.is("of nobody", true, () -> new Termreckonry().isTrue());
            Check.is("of 6 persons", true, () -> Edge.persons(6).isTrue());
            Termreckonry x = Edge.full();
            Check.is("of a full office", true, x::isTrue);
            for (int person = 0; person < 6; person++) {
                for (int day = 0; day <= 3880; day += 97) {
                    int p = person;
                    int d = day;
                    Check.is("state of " + p + " on " + d, x.stateOn(p, d), () -> Edge.full().byClerk(p, d));
                }
            }
        });
        Sentence.of(33, "Returns whether they are.", () -> {
            for (int day : new int[] {0, 96, 97, 98, 193, 194, 195, 3783, 3879, 3880, 3881, 19999}) {
                Termreckonry x = Edge.one('d', day, 1);
                x.atLarge(0, day, Math.min(day + 2, 20000));
                Check.is("one day in prison, on " + day, true, x::isTrue);
            }
        });
    }
}

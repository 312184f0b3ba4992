import java.util.NoSuchElementException;

/** Promises 7 to 13 and 19 to 22. */
public final class WarrantTests {
    private WarrantTests() {
    }

    public static void main(String[] args) {
        persons();
        wrongWarrants();
        limitOfWarrants();
        kinds();
        behind();
        behindThatDoesNotCount();
        count();
        activate();
        vary();
        quash();
        approve();
        neverBegins();
        ends();
        lateReleases();
        Check.end("WarrantTests");
    }

    private static Termreckonry office() {
        Termreckonry x = new Termreckonry();
        x.person();
        return x;
    }

    private static void persons() {
        Termreckonry x = new Termreckonry();
        for (int n = 0; n < 6; n++) {
            int number = n;
            Check.is("person " + n, number, x::person);
        }
        Check.fails("a seventh person", IllegalStateException.class, x::person);
        Check.is("the sixth is there", 'o', () -> x.stateOn(5, 0));
        Check.fails("the seventh is not", IndexOutOfBoundsException.class, () -> x.stateOn(6, 0));
    }

    private static void wrongWarrants() {
        Termreckonry x = office();
        x.person();
        x.warrant(0, 'f', 0, 0, 0, 0, 1, -1);
        Class<IndexOutOfBoundsException> index = IndexOutOfBoundsException.class;
        Class<IllegalArgumentException> argument = IllegalArgumentException.class;
        Check.fails("person -1", index, () -> x.warrant(-1, 'f', 0, 0, 0, 0, 1, -1));
        Check.fails("person 2", index, () -> x.warrant(2, 'x', 0, 0, 0, 0, 1, -1));
        Check.fails("behind -2", index, () -> x.warrant(0, 'x', 0, 0, 0, 0, 0, -2));
        Check.fails("behind itself", index, () -> x.warrant(0, 'f', 0, 0, 0, 0, 1, 1));
        Check.fails("behind 24", index, () -> x.warrant(0, 'f', 0, 0, 0, 0, 1, 24));
        Check.fails("kind x", argument, () -> x.warrant(0, 'x', 0, 0, 0, 0, 1, -1));
        Check.fails("offence -1", argument, () -> x.warrant(0, 'f', -1, 0, 0, 0, 1, -1));
        Check.fails("offence 20000", argument, () -> x.warrant(0, 'f', 20000, 20000, 0, 0, 1, -1));
        Check.fails("passed ahead of the offence", argument, () -> x.warrant(0, 'f', 5, 4, 0, 0, 1, -1));
        Check.fails("passed 20000", argument, () -> x.warrant(0, 'f', 5, 20000, 0, 0, 1, -1));
        Check.fails("years -1", argument, () -> x.warrant(0, 'f', 5, 5, -1, 0, 1, -1));
        Check.fails("years 41", argument, () -> x.warrant(0, 'f', 5, 5, 41, 0, 1, -1));
        Check.fails("months -1", argument, () -> x.warrant(0, 'f', 5, 5, 0, -1, 1, -1));
        Check.fails("months 12", argument, () -> x.warrant(0, 'f', 5, 5, 0, 12, 1, -1));
        Check.fails("days -1", argument, () -> x.warrant(0, 'f', 5, 5, 1, 0, -1, -1));
        Check.fails("days 10000", argument, () -> x.warrant(0, 'f', 5, 5, 1, 0, 10000, -1));
        Check.fails("no term", argument, () -> x.warrant(0, 'f', 5, 5, 0, 0, 0, -1));
        Check.fails("no term, behind another's", argument, () -> x.warrant(1, 'f', 5, 5, 0, 0, 0, 0));
        Check.fails("behind another's", UnsupportedOperationException.class,
                () -> x.warrant(1, 'f', 5, 5, 1, 0, 0, 0));
        Check.is("none of these was passed", 1, x::warrants);
        Check.is("the edges", 1, () -> x.warrant(1, 's', 19999, 19999, 40, 11, 9999, -1));
        Check.is("a year alone", 2, () -> x.warrant(1, 'd', 0, 19999, 1, 0, 0, 1));
        Check.is("a month alone", 3, () -> x.warrant(1, 'l', 0, 19999, 0, 1, 0, 2));
    }

    private static void limitOfWarrants() {
        Termreckonry x = office();
        x.person();
        for (int n = 0; n < 24; n++) {
            int number = n;
            Check.is("warrant " + n, number, () -> x.warrant(number % 2, 'd', 0, 10 * number, 0, 0, 4, -1));
        }
        Check.is("24 warrants", 24, x::warrants);
        Check.fails("one more", IllegalStateException.class, () -> x.warrant(0, 'f', 0, 0, 0, 0, 1, -1));
        Check.fails("one more behind another's", UnsupportedOperationException.class,
                () -> x.warrant(0, 'f', 0, 0, 0, 0, 1, 1));
        Check.fails("one more without a term", IllegalArgumentException.class,
                () -> x.warrant(0, 'f', 0, 0, 0, 0, 0, -1));
        Check.is("the last one stands", 234, () -> x.release(23));
        Check.is("still 24", 24, x::warrants);
    }

    private static void kinds() {
        Termreckonry x = office();
        x.warrant(0, 'f', 0, 100, 0, 0, 31, -1);
        x.warrant(0, 'l', 0, 100, 0, 0, 31, -1);
        x.warrant(0, 'd', 0, 100, 0, 0, 31, -1);
        x.warrant(0, 's', 0, 100, 0, 0, 31, -1);
        Check.is("fixed begins when passed", 100, () -> x.begins(0));
        Check.is("fixed needs half, rounded up", 16, () -> x.needed(0));
        Check.is("fixed release", 116, () -> x.release(0));
        Check.is("fixed end", 131, () -> x.end(0));
        Check.is("life needs all", 31, () -> x.needed(1));
        Check.fails("life without a board", NoSuchElementException.class, () -> x.release(1));
        Check.fails("life has no end without release", NoSuchElementException.class, () -> x.end(1));
        x.approve(1, 0);
        Check.is("life release", 131, () -> x.release(1));
        Check.fails("life has a licence for ever", NoSuchElementException.class, () -> x.end(1));
        Check.is("default needs all", 31, () -> x.needed(2));
        Check.is("default release", 131, () -> x.release(2));
        Check.fails("default has no licence", NoSuchElementException.class, () -> x.end(2));
        Check.fails("suspended does not begin", NoSuchElementException.class, () -> x.begins(3));
        Check.fails("suspended needs nothing", NoSuchElementException.class, () -> x.needed(3));
        Check.fails("suspended has no release", NoSuchElementException.class, () -> x.release(3));
        Check.fails("suspended has no end", NoSuchElementException.class, () -> x.end(3));
        for (int w : new int[] {-1, 4, 24, Integer.MAX_VALUE, Integer.MIN_VALUE}) {
            Check.fails("begins " + w, IndexOutOfBoundsException.class, () -> x.begins(w));
            Check.fails("needed " + w, IndexOutOfBoundsException.class, () -> x.needed(w));
            Check.fails("release " + w, IndexOutOfBoundsException.class, () -> x.release(w));
            Check.fails("end " + w, IndexOutOfBoundsException.class, () -> x.end(w));
        }
    }

    private static void behind() {
        Termreckonry x = office();
        x.warrant(0, 'f', 0, 100, 0, 0, 40, -1);
        x.warrant(0, 'f', 0, 110, 0, 1, 0, 0);
        x.warrant(0, 'f', 0, 120, 0, 0, 10, 0);
        x.warrant(0, 'f', 0, 121, 0, 0, 10, 0);
        Check.is("the release ahead is later", 120, () -> x.begins(1));
        // day 120 is the 30th of April: 30 days to the 30th of May
        Check.is("the length counts from the beginning on", 150, () -> x.end(1));
        Check.is("the same day", 120, () -> x.begins(2));
        Check.is("the own day is later", 121, () -> x.begins(3));
        x.atLarge(0, 105, 115);
        Check.is("days at large put the release off", 130, () -> x.begins(1));
        Check.is("and that of those behind it", 146, () -> x.release(1));
        x.warrant(0, 'd', 0, 0, 0, 0, 5, 1);
        Check.is("a chain", 151, () -> x.release(4));
    }

    private static void behindThatDoesNotCount() {
        Termreckonry x = office();
        x.warrant(0, 's', 0, 100, 0, 0, 40, -1);
        x.warrant(0, 'f', 0, 110, 0, 0, 20, 0);
        x.warrant(0, 'd', 0, 0, 0, 0, 7, 1);
        Check.is("behind a suspended one", 110, () -> x.begins(1));
        x.activate(0, 105);
        Check.is("behind one made to run", 125, () -> x.begins(1));
        Check.is("and further behind", 135, () -> x.begins(2));
        x.quash(1);
        Check.is("behind a quashed one its own day counts, not the one ahead of that", 0, () -> x.begins(2));
    }

    private static void count() {
        Termreckonry x = office();
        x.warrant(0, 'f', 0, 100, 0, 0, 40, -1);
        Check.is("whole days", 3, () -> x.count(0, 3, false));
        Check.is("one under a tag counts nothing", 3, () -> x.count(0, 1, true));
        Check.is("two, told apart, count one", 4, () -> x.count(0, 1, true));
        Check.is("four count two", 5, () -> x.count(0, 2, true));
        Check.is("needed", 15, () -> x.needed(0));
        Check.is("release", 115, () -> x.release(0));
        Check.is("end", 135, () -> x.end(0));
        Check.is("more than needed", 1004, () -> x.count(0, 999, false));
        Check.is("at least 0", 0, () -> x.needed(0));
        Check.is("release on the first day", 100, () -> x.release(0));
        Check.fails("no licence then", NoSuchElementException.class, () -> x.end(0));
        Check.fails("0 days", IllegalArgumentException.class, () -> x.count(0, 0, false));
        Check.fails("1000 days", IllegalArgumentException.class, () -> x.count(0, 1000, true));
        Check.fails("no such warrant", IndexOutOfBoundsException.class, () -> x.count(1, 0, false));
        Check.fails("warrant -1", IndexOutOfBoundsException.class, () -> x.count(-1, 1, false));
        Check.is("these changed nothing", 1005, () -> x.count(0, 3, true));
        x.warrant(0, 'd', 0, 100, 0, 0, 40, -1);
        x.count(1, 10, false);
        Check.is("they count for one in default too", 130, () -> x.release(1));
        x.warrant(0, 'l', 0, 100, 0, 0, 40, -1);
        x.count(2, 40, false);
        Check.is("and for life", 0, () -> x.needed(2));
    }

    private static void activate() {
        Termreckonry x = office();
        x.person();
        x.warrant(0, 's', 50, 100, 0, 0, 40, -1);
        x.warrant(0, 's', 50, 100, 0, 0, 40, -1);
        x.warrant(0, 's', 50, 100, 0, 0, 40, -1);
        x.warrant(0, 'f', 50, 100, 0, 0, 40, -1);
        x.warrant(1, 's', 50, 100, 0, 0, 40, -1);
        Check.fails("no such warrant", IndexOutOfBoundsException.class, () -> x.activate(5, -1));
        Check.fails("warrant -1", IndexOutOfBoundsException.class, () -> x.activate(-1, 100));
        Check.fails("day -1", IllegalArgumentException.class, () -> x.activate(0, -1));
        Check.fails("day 20000", IllegalArgumentException.class, () -> x.activate(0, 20000));
        Check.fails("ahead of the passing", IllegalArgumentException.class, () -> x.activate(0, 99));
        Check.fails("a fixed one ahead of its passing", IllegalArgumentException.class, () -> x.activate(3, 99));
        Check.fails("a fixed one", UnsupportedOperationException.class, () -> x.activate(3, 100));
        Check.is("on the day of the passing", 2, () -> x.activate(0, 100));
        Check.fails("it runs", UnsupportedOperationException.class, () -> x.activate(0, 200));
        Check.is("it begins", 100, () -> x.begins(0));
        Check.is("as a fixed one", 120, () -> x.release(0));
        Check.is("with a licence", 140, () -> x.end(0));
        Check.is("later", 1, () -> x.activate(1, 300));
        Check.is("it begins then", 300, () -> x.begins(1));
        Check.is("the last one", 0, () -> x.activate(2, 19999));
        Check.is("another person's", 0, () -> x.activate(4, 500));
        Check.is("on the last day", 19999, () -> x.begins(2));
        Check.fails("release is none", NoSuchElementException.class, () -> x.release(2));
    }

    private static void vary() {
        Termreckonry x = office();
        x.warrant(0, 'f', 0, 59, 0, 0, 40, -1);
        x.warrant(0, 'f', 0, 59, 0, 0, 40, 0);
        Check.is("length from the passing on", 365, () -> x.vary(0, 1, 0, 0));
        Check.is("needed", 183, () -> x.needed(0));
        Check.is("the one behind it", 242, () -> x.begins(1));
        Check.is("from the passing, not the beginning", 29, () -> x.vary(1, 0, 1, 0));
        // day 242 is the 30th of August
        Check.is("the end counts from the beginning", 273, () -> x.end(1));
        Check.fails("no term", IllegalArgumentException.class, () -> x.vary(0, 0, 0, 0));
        Check.fails("years 41", IllegalArgumentException.class, () -> x.vary(0, 41, 0, 0));
        Check.fails("years -1", IllegalArgumentException.class, () -> x.vary(0, -1, 0, 1));
        Check.fails("months 12", IllegalArgumentException.class, () -> x.vary(0, 0, 12, 0));
        Check.fails("months -1", IllegalArgumentException.class, () -> x.vary(0, 0, -1, 1));
        Check.fails("days 10000", IllegalArgumentException.class, () -> x.vary(0, 0, 0, 10000));
        Check.fails("days -1", IllegalArgumentException.class, () -> x.vary(0, 1, 0, -1));
        Check.fails("no such warrant", IndexOutOfBoundsException.class, () -> x.vary(2, 0, 0, 0));
        Check.fails("warrant -1", IndexOutOfBoundsException.class, () -> x.vary(-1, 1, 0, 0));
        Check.is("these changed nothing", 183, () -> x.needed(0));
        x.warrant(0, 's', 0, 19999, 0, 0, 1, -1);
        Check.is("the longest, suspended", 24944, () -> x.vary(2, 40, 11, 9999));
    }

    private static void quash() {
        Termreckonry x = office();
        x.warrant(0, 'f', 0, 100, 0, 0, 40, -1);
        x.warrant(0, 'f', 0, 100, 0, 0, 40, 0);
        Check.is("it stood", true, () -> x.quash(0));
        Check.is("it was quashed", false, () -> x.quash(0));
        Check.fails("begins", NoSuchElementException.class, () -> x.begins(0));
        Check.fails("needed", NoSuchElementException.class, () -> x.needed(0));
        Check.fails("release", NoSuchElementException.class, () -> x.release(0));
        Check.fails("end", NoSuchElementException.class, () -> x.end(0));
        Check.is("the one behind it", 100, () -> x.begins(1));
        Check.is("still told", 2, x::warrants);
        Check.fails("warrant -1", IndexOutOfBoundsException.class, () -> x.quash(-1));
        Check.fails("warrant 2", IndexOutOfBoundsException.class, () -> x.quash(2));
        x.warrant(0, 's', 0, 100, 0, 0, 40, -1);
        Check.is("a suspended one", true, () -> x.quash(2));
        Check.is("it can be made to run", 0, () -> x.activate(2, 100));
        Check.fails("but counts for nothing", NoSuchElementException.class, () -> x.begins(2));
    }

    private static void approve() {
        Termreckonry x = office();
        x.warrant(0, 'l', 0, 100, 0, 0, 40, -1);
        Check.is("none before", -1, () -> x.approve(0, 0));
        Check.is("day 0 before", 0, () -> x.approve(0, 19999));
        Check.is("release on the last day", 19999, () -> x.release(0));
        Check.is("the last day before", 19999, () -> x.approve(0, 150));
        Check.is("in place of the earlier one", 150, () -> x.release(0));
        Check.fails("day -1", IllegalArgumentException.class, () -> x.approve(0, -1));
        Check.fails("day 20000", IllegalArgumentException.class, () -> x.approve(0, 20000));
        Check.fails("no such warrant", IndexOutOfBoundsException.class, () -> x.approve(1, -1));
        Check.fails("warrant -1", IndexOutOfBoundsException.class, () -> x.approve(-1, 0));
        Check.is("these changed nothing", 150, () -> x.approve(0, 1));
    }

    private static void neverBegins() {
        Termreckonry x = office();
        x.warrant(0, 'l', 0, 100, 0, 0, 40, -1);
        x.warrant(0, 'f', 0, 100, 0, 0, 40, 0);
        x.warrant(0, 'f', 0, 100, 0, 0, 40, 1);
        for (int w : new int[] {1, 2}) {
            Check.fails("begins", NoSuchElementException.class, () -> x.begins(w));
            Check.fails("needed", NoSuchElementException.class, () -> x.needed(w));
            Check.fails("release", NoSuchElementException.class, () -> x.release(w));
            Check.fails("end", NoSuchElementException.class, () -> x.end(w));
        }
        x.approve(0, 0);
        Check.is("it begins with the release", 140, () -> x.begins(1));
        Check.is("and the one behind that", 160, () -> x.begins(2));
    }

    private static void ends() {
        Termreckonry x = office();
        x.law('o', 0, 8, false);
        x.warrant(0, 'f', 0, 100, 0, 0, 40, -1);
        Check.fails("the end is not later than the release", NoSuchElementException.class, () -> x.end(0));
        x.law('o', 0, 7, false);
        Check.is("the end is later", 140, () -> x.end(0));
        x.atLarge(0, 90, 102);
        x.atLarge(0, 134, 139);
        // 2 days at large at the beginning, 5 ahead of the release
        Check.is("release", 142, () -> x.release(0));
        Check.is("days at large from the beginning up to the release", 147, () -> x.end(0));
        x.atLarge(0, 142, 150);
        Check.is("those from the release on do not count", 147, () -> x.end(0));
    }

    private static void lateReleases() {
        Termreckonry x = office();
        x.warrant(0, 'd', 0, 19990, 0, 0, 9, -1);
        x.warrant(0, 'd', 0, 19990, 0, 0, 10, -1);
        x.warrant(0, 'f', 0, 19990, 40, 0, 0, -1);
        Check.is("release on the last day", 19999, () -> x.release(0));
        Check.fails("release behind it", NoSuchElementException.class, () -> x.release(1));
        Check.is("needed all the same", 10, () -> x.needed(1));
        Check.fails("no end without a release", NoSuchElementException.class, () -> x.end(2));
        x.warrant(0, 'f', 0, 10000, 40, 11, 0, -1);
        int length = x.length(10000, 40, 11, 0);
        Check.is("a licence may end behind the last day", 10000 + length, () -> x.end(3));
        x.atLarge(0, 19995, 19996);
        Check.fails("a day at large puts it behind the last day", NoSuchElementException.class, () -> x.release(0));
    }
}

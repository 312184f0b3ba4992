import java.util.NoSuchElementException;

/** Promises 23 to 28: states, the clerk, the keeper and holding. */
public final class StateTests {
    private StateTests() {
    }

    public static void main(String[] args) {
        states();
        wrongDays();
        keeper();
        held();
        tooLongAndTooShort();
        heldAtLarge();
        lastDays();
        Check.end("StateTests");
    }

    private static Termreckonry office() {
        Termreckonry x = new Termreckonry();
        x.person();
        return x;
    }

    private static void state(Termreckonry x, int person, int day, char due) {
        Check.is("state of " + person + " on " + day, due, () -> x.stateOn(person, day));
        Check.is("by the clerk, " + person + " on " + day, due, () -> x.byClerk(person, day));
    }

    private static void states() {
        Termreckonry x = office();
        x.person();
        x.warrant(0, 'f', 0, 100, 0, 0, 40, -1);
        state(x, 0, 0, 'o');
        state(x, 0, 99, 'o');
        state(x, 0, 100, 'p');
        state(x, 0, 119, 'p');
        state(x, 0, 120, 'l');
        state(x, 0, 139, 'l');
        state(x, 0, 140, 'o');
        state(x, 1, 100, 'o');
        x.warrant(0, 'd', 0, 130, 0, 0, 5, -1);
        state(x, 0, 129, 'l');
        state(x, 0, 130, 'p');
        state(x, 0, 134, 'p');
        state(x, 0, 135, 'l');
        x.atLarge(0, 138, 142);
        state(x, 0, 139, 'l');
        state(x, 0, 141, 'o');
        x.warrant(0, 'd', 0, 139, 0, 0, 2, -1);
        state(x, 0, 138, 'l');
        state(x, 0, 139, 'a');
        state(x, 0, 142, 'p');
        state(x, 0, 144, 'o');
        x.warrant(0, 'l', 0, 1000, 0, 0, 1, -1);
        state(x, 0, 19999, 'p');
        x.approve(3, 1005);
        state(x, 0, 1004, 'p');
        state(x, 0, 1005, 'l');
        state(x, 0, 19999, 'l');
        x.quash(3);
        state(x, 0, 1004, 'o');
        x.warrant(1, 'd', 0, 0, 0, 0, 2, -1);
        x.atLarge(1, 0, 1);
        state(x, 1, 0, 'a');
        state(x, 1, 2, 'p');
        state(x, 1, 3, 'o');
    }

    private static void wrongDays() {
        Termreckonry x = office();
        for (int person : new int[] {-1, 1, 6}) {
            Check.fails("stateOn", IndexOutOfBoundsException.class, () -> x.stateOn(person, -1));
            Check.fails("byClerk", IndexOutOfBoundsException.class, () -> x.byClerk(person, -1));
            Check.fails("keeper", IndexOutOfBoundsException.class, () -> x.keeper(person, -1));
            Check.fails("held", IndexOutOfBoundsException.class, () -> x.held(person, -1, 0));
            Check.fails("tooLong", IndexOutOfBoundsException.class, () -> x.tooLong(person, -1));
            Check.fails("tooShort", IndexOutOfBoundsException.class, () -> x.tooShort(person, -1));
        }
        for (int day : new int[] {-1, 20000, Integer.MAX_VALUE, Integer.MIN_VALUE}) {
            Check.fails("stateOn", IllegalArgumentException.class, () -> x.stateOn(0, day));
            Check.fails("byClerk", IllegalArgumentException.class, () -> x.byClerk(0, day));
            Check.fails("keeper", IllegalArgumentException.class, () -> x.keeper(0, day));
        }
        for (int before : new int[] {-1, 20001, Integer.MAX_VALUE, Integer.MIN_VALUE}) {
            Check.fails("tooLong", IllegalArgumentException.class, () -> x.tooLong(0, before));
            Check.fails("tooShort", IllegalArgumentException.class, () -> x.tooShort(0, before));
        }
    }

    private static void keeper() {
        Termreckonry x = office();
        x.person();
        x.warrant(1, 'd', 0, 0, 0, 0, 999, -1);
        x.warrant(0, 'd', 0, 100, 0, 0, 10, -1);
        x.warrant(0, 'd', 0, 102, 0, 0, 20, -1);
        x.warrant(0, 'd', 0, 104, 0, 0, 18, -1);
        Check.fails("nobody's", NoSuchElementException.class, () -> x.keeper(0, 99));
        Check.is("the only one", 1, () -> x.keeper(0, 101));
        Check.is("the later release", 2, () -> x.keeper(0, 102));
        Check.is("of the same releases the lowest", 2, () -> x.keeper(0, 104));
        Check.is("the last day", 2, () -> x.keeper(0, 121));
        Check.fails("released", NoSuchElementException.class, () -> x.keeper(0, 122));
        x.warrant(0, 'l', 0, 103, 0, 0, 1, -1);
        x.warrant(0, 'l', 0, 103, 0, 0, 1, -1);
        Check.is("no release is later than all; the lowest", 4, () -> x.keeper(0, 110));
        Check.is("as long as there is none", 4, () -> x.keeper(0, 19999));
        x.approve(4, 105);
        Check.is("the other has none", 5, () -> x.keeper(0, 104));
        x.approve(5, 107);
        Check.is("the latest again", 2, () -> x.keeper(0, 106));
        x.atLarge(0, 110, 111);
        Check.is("at large or not", 2, () -> x.keeper(0, 110));
        Check.fails("a licence does not keep", NoSuchElementException.class, () -> x.keeper(0, 200));
        x.recall(0, 200, 's');
        Check.fails("nor does a recall", NoSuchElementException.class, () -> x.keeper(0, 200));
    }

    private static void held() {
        Termreckonry x = office();
        x.person();
        Check.is("ten days", 10, () -> x.held(0, 50, 60));
        Check.is("each once", 12, () -> x.held(0, 48, 60));
        Check.is("all of them", 20000, () -> x.held(1, 0, 20000));
        Check.is("first and last", 13, () -> x.held(0, 0, 1));
        Check.is("first and last", 14, () -> x.held(0, 19999, 20000));
        Check.fails("from -1", IllegalArgumentException.class, () -> x.held(0, -1, 5));
        Check.fails("not later", IllegalArgumentException.class, () -> x.held(0, 5, 5));
        Check.fails("to 20001", IllegalArgumentException.class, () -> x.held(0, 5, 20001));
        Check.fails("from 20000", IllegalArgumentException.class, () -> x.held(0, 20000, 20001));
        Check.is("these changed nothing", 14, () -> x.held(0, 0, 1));
    }

    private static void tooLongAndTooShort() {
        Termreckonry x = office();
        x.person();
        // in prison from 100 up to 119, on licence up to 139
        x.warrant(0, 'f', 0, 100, 0, 0, 40, -1);
        Check.is("nothing held: too long", 0, () -> x.tooLong(0, 20000));
        Check.is("nothing held: too short", 20, () -> x.tooShort(0, 20000));
        Check.is("the day itself is not counted", 0, () -> x.tooShort(0, 100));
        Check.is("only up to it", 1, () -> x.tooShort(0, 101));
        Check.is("day 0", 0, () -> x.tooShort(0, 0));
        x.held(0, 95, 110);
        x.held(0, 115, 145);
        Check.is("too long: 5 ahead, 20 on licence, 5 behind", 30, () -> x.tooLong(0, 20000));
        Check.is("too long up to 98", 3, () -> x.tooLong(0, 98));
        Check.is("too long up to 0", 0, () -> x.tooLong(0, 0));
        Check.is("too short", 5, () -> x.tooShort(0, 20000));
        x.recall(0, 130, 's');
        Check.is("recalled: less too long", 20, () -> x.tooLong(0, 20000));
        x.held(1, 0, 7);
        Check.is("another person", 7, () -> x.tooLong(1, 20000));
        Check.is("another person", 0, () -> x.tooShort(1, 20000));
        Check.is("still those of the first", 5, () -> x.tooShort(0, 20000));
        x.letGo(0, 135);
        Check.is("let go", 25, () -> x.tooLong(0, 20000));
        x.warrant(0, 'f', 0, 200, 0, 0, 10, -1);
        Check.is("a second warrant", 10, () -> x.tooShort(0, 20000));
        x.recall(0, 207, 's');
        Check.is("a recall without being held", 13, () -> x.tooShort(0, 20000));
    }

    private static void heldAtLarge() {
        Termreckonry x = office();
        x.warrant(0, 'd', 0, 100, 0, 0, 20, -1);
        x.atLarge(0, 95, 105);
        x.held(0, 90, 103);
        // 90 to 99 the state is o, at large or not; 100 to 104 it is a: neither
        Check.is("too long", 10, () -> x.tooLong(0, 20000));
        Check.is("too short", 20, () -> x.tooShort(0, 20000));
        Check.is("up to 105", 0, () -> x.tooShort(0, 105));
        Check.is("up to 106", 1, () -> x.tooShort(0, 106));
    }

    private static void lastDays() {
        Termreckonry x = office();
        x.warrant(0, 'd', 0, 19990, 0, 0, 999, -1);
        state(x, 0, 19999, 'p');
        Check.is("up to the last day", 10, () -> x.tooShort(0, 20000));
        x.held(0, 0, 20000);
        Check.is("up to the last day", 19990, () -> x.tooLong(0, 20000));
        Check.is("none too short then", 0, () -> x.tooShort(0, 20000));
        x.atLarge(0, 19999, 20000);
        state(x, 0, 19999, 'a');
    }
}

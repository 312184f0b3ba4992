/** Promises 5 and 6, and the laws in the needed days and releases. */
public final class LawTests {
    private LawTests() {
    }

    public static void main(String[] args) {
        numbers();
        wrongLaws();
        byOffenceOrPassing();
        greatestNumberCounts();
        lawOfKinds();
        eighths();
        boards();
        noLawForLifeAndDefault();
        Check.end("LawTests");
    }

    private static void numbers() {
        Termreckonry x = new Termreckonry();
        for (int n = 0; n < 8; n++) {
            int number = n;
            Check.is("law " + n, number, () -> x.law('p', 19999 - number, 1 + number, false));
        }
        Check.fails("a ninth law", IllegalStateException.class, () -> x.law('o', 0, 4, false));
        Check.fails("a ninth law that is wrong", IllegalArgumentException.class, () -> x.law('o', 0, 0, false));
    }

    private static void wrongLaws() {
        Termreckonry x = new Termreckonry();
        Check.fails("way x", IllegalArgumentException.class, () -> x.law('x', 0, 4, false));
        Check.fails("way O", IllegalArgumentException.class, () -> x.law('O', 0, 4, false));
        Check.fails("from -1", IllegalArgumentException.class, () -> x.law('o', -1, 4, false));
        Check.fails("from 20000", IllegalArgumentException.class, () -> x.law('p', 20000, 4, false));
        Check.fails("0 eighths", IllegalArgumentException.class, () -> x.law('o', 0, 0, false));
        Check.fails("9 eighths", IllegalArgumentException.class, () -> x.law('o', 0, 9, false));
        Check.is("none of these made a law", 0, () -> x.law('o', 19999, 8, true));
    }

    private static void byOffenceOrPassing() {
        Termreckonry x = new Termreckonry();
        x.person();
        x.warrant(0, 'f', 100, 200, 0, 0, 80, -1);
        Check.fails("no law", java.util.NoSuchElementException.class, () -> x.lawOf(0));
        x.law('o', 101, 1, false);
        Check.fails("offence one day ahead of the law", java.util.NoSuchElementException.class, () -> x.lawOf(0));
        Check.is("no law is 4 eighths", 40, () -> x.needed(0));
        x.law('o', 100, 2, false);
        Check.is("offence on the law's day", 1, () -> x.lawOf(0));
        Check.is("2 eighths", 20, () -> x.needed(0));
        x.law('p', 201, 3, false);
        Check.is("passing one day ahead of the law", 1, () -> x.lawOf(0));
        x.law('p', 200, 5, false);
        Check.is("passing on the law's day", 3, () -> x.lawOf(0));
        Check.is("5 eighths", 50, () -> x.needed(0));
    }

    private static void greatestNumberCounts() {
        Termreckonry x = new Termreckonry();
        x.person();
        x.law('p', 900, 8, false);
        x.law('o', 10, 7, false);
        x.law('p', 0, 6, false);
        x.law('p', 1001, 1, false);
        Check.is("warrant", 0, () -> x.warrant(0, 'f', 950, 1000, 0, 0, 80, -1));
        Check.is("not that of the latest day, but the greatest number", 2, () -> x.lawOf(0));
        Check.is("6 eighths", 60, () -> x.needed(0));
    }

    private static void lawOfKinds() {
        Termreckonry x = new Termreckonry();
        x.person();
        x.warrant(0, 'f', 5, 5, 0, 0, 8, -1);
        x.warrant(0, 'l', 5, 5, 0, 0, 8, -1);
        x.warrant(0, 'd', 5, 5, 0, 0, 8, -1);
        x.warrant(0, 's', 5, 5, 0, 0, 8, -1);
        Check.fails("life without a law", UnsupportedOperationException.class, () -> x.lawOf(1));
        Check.fails("default without a law", UnsupportedOperationException.class, () -> x.lawOf(2));
        Check.fails("suspended without a law", java.util.NoSuchElementException.class, () -> x.lawOf(3));
        x.law('p', 5, 8, false);
        Check.is("fixed", 0, () -> x.lawOf(0));
        Check.fails("life", UnsupportedOperationException.class, () -> x.lawOf(1));
        Check.fails("default", UnsupportedOperationException.class, () -> x.lawOf(2));
        Check.is("suspended, that does not run", 0, () -> x.lawOf(3));
        x.quash(0);
        Check.is("quashed", 0, () -> x.lawOf(0));
        // the law goes by the passing, though it runs from a later day on
        x.law('p', 6, 1, false);
        x.activate(3, 50);
        Check.is("suspended, made to run", 0, () -> x.lawOf(3));
        Check.is("needed by it", 8, () -> x.needed(3));
        Check.fails("warrant -1", IndexOutOfBoundsException.class, () -> x.lawOf(-1));
        Check.fails("warrant 4", IndexOutOfBoundsException.class, () -> x.lawOf(4));
        Check.fails("warrant 24", IndexOutOfBoundsException.class, () -> x.lawOf(24));
    }

    private static void eighths() {
        int[] due = {2, 3, 4, 5, 7, 8, 9, 10};
        for (int e = 1; e <= 8; e++) {
            Termreckonry x = new Termreckonry();
            x.person();
            x.law('o', 0, e, false);
            x.warrant(0, 'f', 0, 0, 0, 0, 10, -1);
            Check.is(e + " eighths of 10 days, rounded up", due[e - 1], () -> x.needed(0));
        }
    }

    private static void boards() {
        Termreckonry x = new Termreckonry();
        x.person();
        x.law('p', 100, 4, true);
        x.warrant(0, 'f', 0, 99, 0, 0, 20, -1);
        x.warrant(0, 'f', 0, 100, 0, 0, 20, -1);
        Check.is("no board by the older day", 109, () -> x.release(0));
        Check.fails("no yes yet", java.util.NoSuchElementException.class, () -> x.release(1));
        Check.is("a yes ahead of the days served", -1, () -> x.approve(1, 103));
        Check.is("release by the days", 110, () -> x.release(1));
        Check.is("a yes on that very day", 103, () -> x.approve(1, 110));
        Check.is("release then", 110, () -> x.release(1));
        x.approve(1, 111);
        Check.is("release by the yes", 111, () -> x.release(1));
        x.approve(0, 500);
        Check.is("a yes that nobody asks for", 109, () -> x.release(0));
        x.law('o', 0, 8, true);
        Check.is("a law makes it count later", 500, () -> x.release(0));
    }

    private static void noLawForLifeAndDefault() {
        Termreckonry x = new Termreckonry();
        x.person();
        x.law('o', 0, 1, true);
        x.warrant(0, 'd', 0, 10, 0, 0, 30, -1);
        x.warrant(0, 'l', 0, 10, 0, 0, 30, -1);
        Check.is("default: all days", 30, () -> x.needed(0));
        Check.is("default: no board", 40, () -> x.release(0));
        Check.is("life: all days", 30, () -> x.needed(1));
        Check.fails("life: a board", java.util.NoSuchElementException.class, () -> x.release(1));
    }
}

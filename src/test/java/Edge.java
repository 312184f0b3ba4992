import java.util.NoSuchElementException;

/** What the tests of the edges have in common: ranges, wrong numbers, figures and states of an office. */
final class Edge {
    /** Stands for a figure that there is not. */
    static final int NONE = -1;

    static final Class<IndexOutOfBoundsException> INDEX = IndexOutOfBoundsException.class;
    static final Class<IllegalArgumentException> ARGUMENT = IllegalArgumentException.class;
    static final Class<UnsupportedOperationException> UNSUPPORTED = UnsupportedOperationException.class;
    static final Class<IllegalStateException> STATE = IllegalStateException.class;
    static final Class<NoSuchElementException> ELEMENT = NoSuchElementException.class;
    static final Class<ArithmeticException> ARITHMETIC = ArithmeticException.class;

    /** A call with one number that changes. */
    interface With {
        Object answer(int number);
    }

    /** A call of some office with one number that changes. */
    interface WithOffice {
        Object answer(Termreckonry x, int number);
    }

    /** A call with one letter that changes. */
    interface WithLetter {
        Object answer(char letter);
    }

    private Edge() {
    }

    static void taken(String what, With call, int... numbers) {
        for (int n : numbers) {
            Check.is(what + " " + n + " is taken", false,
                    () -> Check.outcome(() -> call.answer(n)).toString().startsWith("throws."));
        }
    }

    static void refused(String what, Class<? extends RuntimeException> due, With call, int... numbers) {
        for (int n : numbers) {
            Check.fails(what + " " + n, due, () -> call.answer(n));
        }
    }

    /** The first and the last number of a range are taken, those beside them and far from it are not. */
    static void range(String what, int least, int most, With call) {
        taken(what, call, least, least + 1, most - 1, most);
        refused(what, ARGUMENT, call, least - 1, most + 1, Integer.MIN_VALUE, Integer.MAX_VALUE);
    }

    /** So many are there, numbered from 0. */
    static void numbered(String what, int many, With call) {
        if (many > 0) {
            taken(what, call, 0, many - 1);
        }
        refused(what, INDEX, call, -1, many, many + 1, 1000, Integer.MIN_VALUE, Integer.MAX_VALUE);
    }

    /** All letters but these are refused; those beside them in the alphabet among them. */
    static void letters(String what, String letters, WithLetter call) {
        for (char c = 0; c < 300; c++) {
            letter(what, letters.indexOf(c) >= 0, c, call);
        }
        // what a cast to a byte would make one of these letters
        letter(what, false, (char) (letters.charAt(0) + 256), call);
        letter(what, false, (char) (letters.charAt(0) + 0xff00), call);
        letter(what, false, Character.MAX_VALUE, call);
    }

    private static void letter(String what, boolean taken, char c, WithLetter call) {
        if (taken) {
            taken(what, n -> call.answer((char) n), c);
        } else {
            refused(what, ARGUMENT, n -> call.answer((char) n), c);
        }
    }

    /** Begin, needed days, release and end of a warrant; NONE for a figure that there is not. */
    static void figures(Termreckonry x, int warrant, int begin, int needed, int release, int end) {
        figure("begins", begin, () -> x.begins(warrant));
        figure("needed", needed, () -> x.needed(warrant));
        figure("release", release, () -> x.release(warrant));
        figure("end", end, () -> x.end(warrant));
    }

    private static void figure(String what, int due, Check.Call call) {
        if (due == NONE) {
            Check.fails(what, ELEMENT, call);
        } else {
            Check.is(what, due, call);
        }
    }

    /** The states on the days from one on, by both ways. */
    static void states(Termreckonry x, int person, int from, String letters) {
        for (int i = 0; i < letters.length(); i++) {
            int day = from + i;
            Check.is("state of " + person + " on " + day, letters.charAt(i), () -> x.stateOn(person, day));
            Check.is("by the clerk, " + person + " on " + day, letters.charAt(i), () -> x.byClerk(person, day));
        }
    }

    // ---- offices

    static Termreckonry persons(int many) {
        Termreckonry x = new Termreckonry();
        for (int n = 0; n < many; n++) {
            x.person();
        }
        return x;
    }

    /** One person with one warrant. */
    static Termreckonry one(char kind, int passed, int days) {
        Termreckonry x = persons(1);
        x.warrant(0, kind, passed, passed, 0, 0, days, -1);
        return x;
    }

    /** One person: in prison from the day 100 up to 149, on licence up to 199. */
    static Termreckonry onLicence() {
        return one('f', 100, 100);
    }

    /** One person, for life, on licence from the day 1 on for ever. */
    static Termreckonry onLicenceForEver() {
        Termreckonry x = one('l', 0, 1);
        x.approve(0, 1);
        return x;
    }

    /** 8 laws, 6 persons, 24 warrants, 30 times added days and 20 recalls, by 104 calls. */
    static Termreckonry full() {
        Termreckonry x = persons(6);
        for (int n = 0; n < 8; n++) {
            x.law(n % 2 == 0 ? 'o' : 'p', 100 * n, n + 1, n == 7);
        }
        for (int n = 0; n < 24; n++) {
            x.warrant(n % 6, "lfds".charAt(n / 6), 50 * n, 50 * n + 10, 0, 1, n, n < 12 ? -1 : n - 6);
        }
        for (int p = 0; p < 6; p++) {
            x.approve(p, 60 * p);
        }
        for (int n = 0; n < 30; n++) {
            x.add(n % 6, 300 + 20 * n, 1 + n);
        }
        for (int n = 0; n < 20; n++) {
            x.recall(n % 6, 3000 + 100 * n, n % 2 == 0 ? 'f' : 's');
            if (n % 2 != 0) {
                x.letGo(n % 6, 3050 + 100 * n);
            }
        }
        return x;
    }
}

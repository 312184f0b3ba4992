/** Promises 16 to 18: at large, recalls and letting go. */
public final class RecallTests {
    private RecallTests() {
    }

    public static void main(String[] args) {
        atLarge();
        recall();
        limit();
        fixedRecall();
        standingRecall();
        endsWithTheLicence();
        licencesOneBehindAnother();
        warrantsThatWereThere();
        forGood();
        letGo();
        letGoOfSeveral();
        letGoTwice();
        inPrison();
        Check.end("RecallTests");
    }

    /** On licence from the day 150 up to 199. */
    private static Termreckonry onLicence() {
        Termreckonry x = new Termreckonry();
        x.person();
        x.warrant(0, 'f', 0, 100, 0, 0, 100, -1);
        return x;
    }

    private static void states(Termreckonry x, String what, int from, String letters) {
        for (int i = 0; i < letters.length(); i++) {
            int day = from + i;
            Check.is(what + ", state on " + day, letters.charAt(i), () -> x.stateOn(0, day));
            Check.is(what + ", by the clerk on " + day, letters.charAt(i), () -> x.byClerk(0, day));
        }
    }

    private static void atLarge() {
        Termreckonry x = onLicence();
        x.person();
        Check.is("ten days", 10, () -> x.atLarge(0, 100, 110));
        Check.is("each once", 15, () -> x.atLarge(0, 105, 115));
        Check.is("one more", 16, () -> x.atLarge(0, 115, 116));
        Check.is("the other person", 20000, () -> x.atLarge(1, 0, 20000));
        Check.is("the first and the last", 17, () -> x.atLarge(0, 0, 1));
        Check.is("the last", 18, () -> x.atLarge(0, 19999, 20000));
        Check.is("release", 166, () -> x.release(0));
        Check.is("end", 216, () -> x.end(0));
        Check.fails("no such person", IndexOutOfBoundsException.class, () -> x.atLarge(2, 5, 5));
        Check.fails("person -1", IndexOutOfBoundsException.class, () -> x.atLarge(-1, 5, 6));
        Check.fails("from -1", IllegalArgumentException.class, () -> x.atLarge(0, -1, 5));
        Check.fails("not later", IllegalArgumentException.class, () -> x.atLarge(0, 5, 5));
        Check.fails("earlier", IllegalArgumentException.class, () -> x.atLarge(0, 5, 4));
        Check.fails("to 20001", IllegalArgumentException.class, () -> x.atLarge(0, 5, 20001));
        Check.fails("from 20000", IllegalArgumentException.class, () -> x.atLarge(0, 20000, 20001));
        Check.is("these changed nothing", 18, () -> x.atLarge(0, 0, 1));
        states(x, "at large", 99, "oa");
        states(x, "at large", 115, "ap");
        // served from 116 on
        Check.is("not at large on licence", 'l', () -> x.stateOn(0, 166));
        Check.is("nor without any warrant", 'o', () -> x.stateOn(0, 19999));
    }

    private static void recall() {
        Termreckonry x = onLicence();
        Check.fails("no such person", IndexOutOfBoundsException.class, () -> x.recall(1, -1, 'x'));
        Check.fails("person -1", IndexOutOfBoundsException.class, () -> x.recall(-1, 160, 'f'));
        Check.fails("day -1", IllegalArgumentException.class, () -> x.recall(0, -1, 'f'));
        Check.fails("day 20000", IllegalArgumentException.class, () -> x.recall(0, 20000, 'f'));
        Check.fails("kind x", IllegalArgumentException.class, () -> x.recall(0, 100, 'x'));
        Check.fails("in prison", UnsupportedOperationException.class, () -> x.recall(0, 149, 'f'));
        Check.fails("owes nothing before", UnsupportedOperationException.class, () -> x.recall(0, 99, 'f'));
        Check.fails("owes nothing behind", UnsupportedOperationException.class, () -> x.recall(0, 200, 's'));
        Check.is("the first of licence", 1, () -> x.recall(0, 150, 'f'));
        Check.fails("recalled", UnsupportedOperationException.class, () -> x.recall(0, 177, 's'));
        Check.is("on licence again", 2, () -> x.recall(0, 178, 's'));
        Check.fails("recalled up to the end", UnsupportedOperationException.class, () -> x.recall(0, 199, 's'));
    }

    private static void limit() {
        Termreckonry x = new Termreckonry();
        x.person();
        x.person();
        x.warrant(0, 'l', 0, 0, 0, 0, 1, -1);
        x.warrant(1, 'l', 0, 0, 0, 0, 1, -1);
        x.approve(0, 1);
        x.approve(1, 1);
        for (int n = 0; n < 20; n++) {
            int day = 100 * (n + 1);
            int person = n % 2;
            Check.is("recall " + n, n / 2 + 1, () -> x.recall(person, day, 'f'));
        }
        Check.fails("one more", IllegalStateException.class, () -> x.recall(0, 5000, 'f'));
        Check.fails("one more without a licence", UnsupportedOperationException.class, () -> x.recall(0, 0, 'f'));
        Check.fails("one more of a wrong kind", IllegalArgumentException.class, () -> x.recall(0, 5000, 'x'));
        Check.is("nothing changed", 'l', () -> x.stateOn(0, 5000));
        Check.is("the last one goes on", 'r', () -> x.stateOn(1, 2027));
    }

    private static void fixedRecall() {
        Termreckonry x = onLicence();
        x.recall(0, 155, 'f');
        states(x, "28 days", 154, "lr");
        states(x, "28 days", 182, "rl");
        x.atLarge(0, 156, 158);
        x.atLarge(0, 183, 185);
        // two days at large within the 28, and then those at their end put it off further
        states(x, "28 days without those at large", 155, "raar");
        states(x, "28 days without those at large", 182, "raarrl");
    }

    private static void standingRecall() {
        Termreckonry x = onLicence();
        x.recall(0, 160, 's');
        states(x, "without such an end", 159, "lr");
        states(x, "up to the end of the licence", 198, "rro");
        x.atLarge(0, 170, 171);
        states(x, "at large", 169, "rar");
    }

    private static void endsWithTheLicence() {
        Termreckonry x = onLicence();
        x.recall(0, 190, 'f');
        states(x, "the licence ends first", 190, "rrrrrrrrrroo");
        x.vary(0, 0, 0, 90);
        // the licence is from 145 up to 189 now: none on the very day of the recall
        states(x, "varied", 188, "llooo");
        x.vary(0, 0, 0, 100);
        states(x, "varied back", 189, "lrr");
    }

    private static void licencesOneBehindAnother() {
        Termreckonry x = onLicence();
        // a licence from 190 up to 229, which meets the first one
        x.warrant(0, 'f', 0, 150, 0, 0, 80, -1);
        Check.is("release of the second", 190, () -> x.release(1));
        Check.is("end of the second", 230, () -> x.end(1));
        x.recall(0, 195, 's');
        states(x, "as long as there is any licence", 198, "rrrrr");
        states(x, "up to the last end", 228, "rroo");
        Check.fails("not later", UnsupportedOperationException.class, () -> x.letGo(0, 230));
    }

    private static void warrantsThatWereThere() {
        Termreckonry x = onLicence();
        x.warrant(0, 's', 0, 100, 0, 0, 40, -1);
        x.recall(0, 195, 's');
        // on licence from 196 up to 235, but told behind the recall
        x.warrant(0, 'f', 0, 156, 0, 0, 80, -1);
        states(x, "the later warrant does not keep it up", 198, "rrll");
        x.activate(1, 190);
        // the suspended one was there, though it did not run: in prison up to 209, on licence up to 229
        states(x, "a gap ends it for good", 209, "pll");
        x.vary(1, 0, 0, 20);
        // in prison up to 199, on licence up to 209
        states(x, "no gap", 198, "pprrrrrrrrrrl");
    }

    private static void forGood() {
        Termreckonry x = onLicence();
        // another licence from 250 up to 299, there already
        x.warrant(0, 'f', 0, 200, 0, 0, 100, -1);
        x.recall(0, 195, 's');
        states(x, "ends with the first licence", 198, "rrpp");
        states(x, "for good", 249, "pll");
    }

    private static void letGo() {
        Termreckonry x = onLicence();
        x.recall(0, 160, 's');
        Check.fails("no such person", IndexOutOfBoundsException.class, () -> x.letGo(1, -1));
        Check.fails("person -1", IndexOutOfBoundsException.class, () -> x.letGo(-1, 160));
        Check.fails("day -1", IllegalArgumentException.class, () -> x.letGo(0, -1));
        Check.fails("day 20000", IllegalArgumentException.class, () -> x.letGo(0, 20000));
        Check.fails("ahead of it", UnsupportedOperationException.class, () -> x.letGo(0, 159));
        Check.fails("behind it", UnsupportedOperationException.class, () -> x.letGo(0, 200));
        Check.is("since when", 160, () -> x.letGo(0, 180));
        states(x, "let go from this day on", 179, "rll");
        Check.fails("it does not go on then", UnsupportedOperationException.class, () -> x.letGo(0, 180));
        Check.is("recalled again", 2, () -> x.recall(0, 185, 's'));
        Check.is("at large it goes on, too", 2, () -> x.atLarge(0, 186, 188));
        Check.is("since when then", 185, () -> x.letGo(0, 187));
        states(x, "both", 184, "lral");
    }

    private static void letGoOfSeveral() {
        Termreckonry x = onLicence();
        x.recall(0, 170, 's');
        x.recall(0, 160, 'f');
        Check.is("that which was told first", 170, () -> x.letGo(0, 175));
        states(x, "the other goes on", 174, "rrr");
        Check.is("now the other", 160, () -> x.letGo(0, 175));
        states(x, "none goes on", 174, "rll");
        Check.is("earlier the first one still goes on", 170, () -> x.letGo(0, 172));
        Check.is("and the other", 160, () -> x.letGo(0, 172));
        states(x, "both end earlier", 171, "rll");
    }

    private static void letGoTwice() {
        Termreckonry x = onLicence();
        x.recall(0, 160, 's');
        Check.is("on its first day", 160, () -> x.letGo(0, 160));
        states(x, "it never went on", 159, "lll");
        Check.fails("nothing to let go", UnsupportedOperationException.class, () -> x.letGo(0, 160));
    }

    private static void inPrison() {
        Termreckonry x = onLicence();
        x.recall(0, 160, 'f');
        x.warrant(0, 'd', 0, 165, 0, 0, 10, -1);
        states(x, "prison comes first", 164, "rp");
        states(x, "the days in prison count for the 28", 174, "pr");
        states(x, "the days in prison count for the 28", 187, "rl");
        Check.is("it can end in prison", 160, () -> x.letGo(0, 170));
        states(x, "no recall behind prison", 174, "pl");
    }
}

/** Promises 29 to 33: sums over all persons and warrants. */
public final class SumTests {
    private SumTests() {
    }

    public static void main(String[] args) {
        warrants();
        owedAndMean();
        prisonShare();
        isTrue();
        Check.end("SumTests");
    }

    private static void warrants() {
        Termreckonry x = new Termreckonry();
        x.person();
        Check.is("none", 0, x::warrants);
        x.warrant(0, 'f', 0, 0, 0, 0, 1, -1);
        x.warrant(0, 's', 0, 0, 0, 0, 1, -1);
        Check.is("two", 2, x::warrants);
        x.quash(0);
        Check.is("quashed ones, too", 2, x::warrants);
    }

    private static void owedAndMean() {
        Termreckonry x = new Termreckonry();
        x.person();
        x.person();
        Check.is("nothing", 0L, x::owed);
        x.warrant(0, 's', 0, 0, 0, 0, 7, -1);
        Check.is("suspended", 0L, x::owed);
        Check.fails("no mean", ArithmeticException.class, x::meanNeeded);
        x.warrant(0, 'f', 0, 100, 0, 0, 41, -1);
        Check.is("one", 21L, x::owed);
        Check.is("mean of one", 21.0, x::meanNeeded);
        x.warrant(1, 'd', 0, 100, 0, 0, 10, -1);
        x.warrant(1, 'l', 0, 100, 0, 0, 10, -1);
        x.warrant(1, 'd', 0, 100, 0, 0, 500, 3);
        Check.is("that which never begins is left out", 41L, x::owed);
        Check.is("mean of three", 41.0 / 3.0, x::meanNeeded);
        x.approve(3, 0);
        Check.is("it begins", 541L, x::owed);
        Check.is("mean of four", 135.25, x::meanNeeded);
        x.activate(0, 500);
        Check.is("made to run", 545L, x::owed);
        x.add(0, 110, 5);
        Check.is("with added ones", 550L, x::owed);
        x.count(2, 10, false);
        Check.is("needed days of 0 count as a warrant", 108.0, x::meanNeeded);
        for (int w = 0; w < 5; w++) {
            x.quash(w);
        }
        Check.is("all quashed", 0L, x::owed);
        Check.fails("no mean then", ArithmeticException.class, x::meanNeeded);
    }

    private static void prisonShare() {
        Termreckonry x = new Termreckonry();
        Check.fails("a wrong day first", IllegalArgumentException.class, () -> x.prisonShare(-1));
        Check.fails("no persons", ArithmeticException.class, () -> x.prisonShare(0));
        x.person();
        x.person();
        x.person();
        Check.is("nobody", 0.0f, () -> x.prisonShare(100));
        x.warrant(0, 'f', 0, 100, 0, 0, 40, -1);
        x.warrant(2, 'd', 0, 110, 0, 0, 40, -1);
        Check.is("one of three", 1.0f / 3.0f, () -> x.prisonShare(100));
        Check.is("two of three", 2.0f / 3.0f, () -> x.prisonShare(110));
        x.atLarge(2, 110, 111);
        Check.is("at large is not in prison", 1.0f / 3.0f, () -> x.prisonShare(110));
        Check.is("on licence is not, either", 1.0f / 3.0f, () -> x.prisonShare(125));
        x.recall(0, 125, 's');
        Check.is("nor is the recalled one", 1.0f / 3.0f, () -> x.prisonShare(125));
        Check.fails("day 20000", IllegalArgumentException.class, () -> x.prisonShare(20000));
    }

    private static void isTrue() {
        Termreckonry x = new Termreckonry();
        Check.is("without persons", true, x::isTrue);
        for (int p = 0; p < 6; p++) {
            x.person();
            x.warrant(p, 'f', 0, 97 * p, 1, 0, 0, -1);
            x.warrant(p, 'f', 0, 97 * p, 0, 7, 0, 2 * p);
            x.atLarge(p, 150, 200);
            x.add(p, 120, 17);
            int day = x.release(2 * p);
            if (x.stateOn(p, day) == 'l') {
                x.recall(p, day, 'f');
            }
            Check.is("with " + p, true, x::isTrue);
        }
    }
}

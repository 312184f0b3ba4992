/** Promises 14 and 15: added days and those given back. */
public final class AddedTests {
    private AddedTests() {
    }

    public static void main(String[] args) {
        add();
        limit();
        whichWarrants();
        onTheDayOfRelease();
        orderOfDays();
        atMostTheLength();
        giveBack();
        waitingForTheBoard();
        chains();
        Check.end("AddedTests");
    }

    private static Termreckonry office() {
        Termreckonry x = new Termreckonry();
        x.person();
        return x;
    }

    private static void add() {
        Termreckonry x = office();
        x.person();
        x.warrant(0, 'f', 0, 100, 0, 0, 40, -1);
        x.warrant(1, 'f', 0, 100, 0, 0, 40, -1);
        Check.is("the first", 0, () -> x.add(0, 110, 3));
        Check.is("numbers go over all persons", 1, () -> x.add(1, 110, 5));
        Check.is("needed", 23, () -> x.needed(0));
        Check.is("release", 123, () -> x.release(0));
        Check.is("the other person", 25, () -> x.needed(1));
        Check.is("the end stays", 140, () -> x.end(0));
        Check.fails("no such person", IndexOutOfBoundsException.class, () -> x.add(2, -1, 0));
        Check.fails("person -1", IndexOutOfBoundsException.class, () -> x.add(-1, 0, 1));
        Check.fails("day -1", IllegalArgumentException.class, () -> x.add(0, -1, 1));
        Check.fails("day 20000", IllegalArgumentException.class, () -> x.add(0, 20000, 1));
        Check.fails("0 days", IllegalArgumentException.class, () -> x.add(0, 110, 0));
        Check.fails("201 days", IllegalArgumentException.class, () -> x.add(0, 110, 201));
        Check.is("these added nothing", 23, () -> x.needed(0));
        Check.is("200 days", 2, () -> x.add(0, 19999, 200));
    }

    private static void limit() {
        Termreckonry x = office();
        x.person();
        x.warrant(0, 'f', 0, 100, 0, 0, 200, -1);
        for (int n = 0; n < 30; n++) {
            int number = n;
            Check.is("added " + n, number, () -> x.add(number % 2, 150, 1));
        }
        Check.fails("one more", IllegalStateException.class, () -> x.add(0, 150, 1));
        Check.fails("one more that is wrong", IllegalArgumentException.class, () -> x.add(0, 150, 0));
        Check.is("15 of them came", 115, () -> x.needed(0));
        Check.is("the last one", 0, () -> x.giveBack(29, 1));
        Check.fails("there is none behind it", IndexOutOfBoundsException.class, () -> x.giveBack(30, 1));
        Check.fails("given back, it still stands", IllegalStateException.class, () -> x.add(0, 150, 1));
    }

    private static void whichWarrants() {
        Termreckonry x = office();
        x.warrant(0, 'f', 0, 100, 0, 0, 100, -1);
        x.warrant(0, 'l', 0, 100, 0, 0, 40, -1);
        x.warrant(0, 'd', 0, 100, 0, 0, 40, -1);
        x.warrant(0, 's', 0, 100, 0, 0, 100, -1);
        x.warrant(0, 'f', 0, 121, 0, 0, 100, -1);
        x.warrant(0, 'f', 0, 120, 0, 0, 100, -1);
        x.activate(3, 110);
        x.add(0, 120, 7);
        Check.is("fixed", 57, () -> x.needed(0));
        Check.is("life", 40, () -> x.needed(1));
        Check.is("default", 40, () -> x.needed(2));
        Check.is("made to run", 57, () -> x.needed(3));
        Check.is("begun a day later", 50, () -> x.needed(4));
        Check.is("begun on this day", 57, () -> x.needed(5));
    }

    private static void onTheDayOfRelease() {
        Termreckonry x = office();
        x.warrant(0, 'f', 0, 100, 0, 0, 100, -1);
        x.add(0, 150, 5);
        Check.is("the release is on this day", 50, () -> x.needed(0));
        x.add(0, 149, 4);
        Check.is("one day earlier, and then the other comes, too", 59, () -> x.needed(0));
        x.giveBack(1, 4);
        Check.is("as if it had been so from the beginning", 50, () -> x.needed(0));
    }

    private static void orderOfDays() {
        Termreckonry x = office();
        x.warrant(0, 'f', 0, 100, 0, 0, 100, -1);
        // told in the order of the days backwards: each comes only by those of earlier days
        x.add(0, 160, 9);
        x.add(0, 155, 10);
        x.add(0, 149, 6);
        Check.is("149 puts it to 156, 155 to 166, 160 to 175", 75, () -> x.needed(0));
        x.giveBack(2, 1);
        Check.is("149 puts it to 155 alone", 55, () -> x.needed(0));
        x.add(0, 149, 1);
        Check.is("those of one day come together", 75, () -> x.needed(0));
    }

    private static void atMostTheLength() {
        Termreckonry x = office();
        x.warrant(0, 'f', 0, 100, 0, 0, 100, -1);
        x.add(0, 110, 50);
        Check.is("just the length", 100, () -> x.needed(0));
        x.add(0, 110, 1);
        Check.is("not more", 100, () -> x.needed(0));
        x.count(0, 10, false);
        Check.is("less the days that count already", 90, () -> x.needed(0));
        x.count(0, 95, false);
        Check.is("at least 0", 0, () -> x.needed(0));
        Check.is("release", 100, () -> x.release(0));
    }

    private static void giveBack() {
        Termreckonry x = office();
        x.warrant(0, 'f', 0, 100, 0, 0, 100, -1);
        x.add(0, 110, 20);
        x.add(0, 120, 5);
        Check.is("left", 13, () -> x.giveBack(0, 7));
        Check.is("needed", 68, () -> x.needed(0));
        Check.fails("not so many left", IllegalArgumentException.class, () -> x.giveBack(0, 14));
        Check.fails("0 days", IllegalArgumentException.class, () -> x.giveBack(0, 0));
        Check.fails("-1 days", IllegalArgumentException.class, () -> x.giveBack(0, -1));
        Check.fails("very many", IllegalArgumentException.class, () -> x.giveBack(0, Integer.MAX_VALUE));
        Check.is("these changed nothing", 68, () -> x.needed(0));
        Check.is("all", 0, () -> x.giveBack(0, 13));
        Check.fails("none left", IllegalArgumentException.class, () -> x.giveBack(0, 1));
        Check.is("the other ones", 55, () -> x.needed(0));
        Check.fails("no such ones", IndexOutOfBoundsException.class, () -> x.giveBack(2, 0));
        Check.fails("-1", IndexOutOfBoundsException.class, () -> x.giveBack(-1, 1));
    }

    private static void waitingForTheBoard() {
        Termreckonry x = office();
        x.law('o', 0, 4, true);
        x.warrant(0, 'f', 0, 100, 0, 0, 100, -1);
        x.add(0, 180, 5);
        Check.is("no release: they come", 55, () -> x.needed(0));
        x.approve(0, 170);
        Check.is("a release earlier", 50, () -> x.needed(0));
        x.approve(0, 181);
        Check.is("the yes is later than the day", 55, () -> x.needed(0));
        Check.is("release on the day of the yes", 181, () -> x.release(0));
    }

    private static void chains() {
        Termreckonry x = office();
        x.warrant(0, 'f', 0, 100, 0, 0, 100, -1);
        x.warrant(0, 'f', 0, 100, 0, 0, 100, 0);
        x.add(0, 152, 5);
        Check.is("the second had begun", 55, () -> x.needed(1));
        x.add(0, 120, 4);
        Check.is("all that is told puts its beginning off to 159", 159, () -> x.begins(1));
        Check.is("so that they come to the first alone", 50, () -> x.needed(1));
        Check.is("which was not released on 152", 59, () -> x.needed(0));
    }
}

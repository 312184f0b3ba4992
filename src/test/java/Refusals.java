import java.util.ArrayList;
import java.util.List;

/** What the document says of exceptions: a call that throws changes nothing, and which one comes first. */
final class Refusals {
    private static final int MANY = 1000;

    /** A call of the office that is to be refused. */
    private interface Refused {
        Object by(Termreckonry x);
    }

    private interface Office {
        Termreckonry open();
    }

    private Refusals() {
    }

    static void run() {
        Sentence.of("Terms", "A method that throws an exception changes nothing.", Refusals::changesNothing);
        Sentence.of("Terms", "If several exceptions apply, the exception listed first is thrown.", Refusals::first);
    }

    private static void changesNothing() {
        busyOffice();
        fullOffice();
    }

    private static void first() {
        firstOfCalendarAndLaws();
        firstOfWarrants();
        firstOfOneWarrant();
        firstOfPersons();
        firstOfAnswers();
    }

    // ---- changes nothing

    /** Two persons, with each kind of warrant, and something told of everything. */
    private static Termreckonry busy() {
        Termreckonry x = Edge.persons(2);
        x.law('p', 100, 5, false);
        x.law('o', 400, 6, true);
        x.warrant(0, 'f', 90, 100, 0, 0, 100, -1);
        x.warrant(0, 'f', 90, 120, 0, 2, 0, 0);
        x.warrant(0, 'l', 90, 130, 0, 0, 20, -1);
        x.warrant(0, 'd', 90, 140, 0, 0, 20, 1);
        x.warrant(0, 's', 90, 150, 0, 0, 60, -1);
        x.warrant(0, 's', 90, 150, 0, 0, 70, -1);
        x.warrant(1, 'f', 410, 500, 1, 0, 0, -1);
        x.warrant(1, 's', 10, 20, 0, 0, 30, -1);
        x.activate(5, 160);
        x.approve(2, 300);
        x.approve(6, 700);
        x.count(0, 3, true);
        x.count(6, 5, false);
        x.quash(7);
        x.add(0, 110, 12);
        x.add(1, 550, 9);
        x.giveBack(0, 4);
        x.atLarge(0, 105, 108);
        x.held(0, 95, 140);
        x.recall(0, 320, 's');
        x.letGo(0, 330);
        x.recall(1, 800, 'f');
        return x;
    }

    /** All that can be heard of an office, first without and then with calls that change it. */
    private static List<Object> allAnswers(Termreckonry x) {
        List<Object> all = new ArrayList<>();
        all.add(x.owed());
        all.add(x.warrants());
        for (int w = 0; w < x.warrants(); w++) {
            int n = w;
            all.add(Check.outcome(() -> x.begins(n)));
            all.add(Check.outcome(() -> x.needed(n)));
            all.add(Check.outcome(() -> x.release(n)));
            all.add(Check.outcome(() -> x.end(n)));
            all.add(Check.outcome(() -> x.lawOf(n)));
        }
        for (int p = 0; p < 6; p++) {
            int person = p;
            all.add(Check.outcome(() -> x.tooLong(person, 20000)));
            all.add(Check.outcome(() -> x.tooShort(person, 20000)));
            for (int day = 104; day < 820; day += 101) {
                int d = day;
                all.add(Check.outcome(() -> x.stateOn(person, d)));
            }
            all.add(Check.outcome(() -> x.letGo(person, 810)));
            all.add(Check.outcome(() -> x.letGo(person, 325)));
            all.add(Check.outcome(() -> x.atLarge(person, 19990, 19991)));
            all.add(Check.outcome(() -> x.held(person, 19990, 19991)));
            all.add(Check.outcome(() -> x.recall(person, 850, 's')));
            all.add(Check.outcome(() -> x.recall(person, 4950, 's')));
        }
        addAnswersThatChange(x, all);
        return all;
    }

    private static void addAnswersThatChange(Termreckonry x, List<Object> all) {
        for (int w = 0; w < x.warrants(); w++) {
            int n = w;
            all.add(Check.outcome(() -> x.count(n, 1, n % 2 == 0)));
            all.add(Check.outcome(() -> x.approve(n, 1)));
            all.add(Check.outcome(() -> x.activate(n, 19999)));
            all.add(Check.outcome(() -> x.quash(n)));
        }
        for (int a = 0; a < 30; a++) {
            int added = a;
            all.add(Check.outcome(() -> x.giveBack(added, 1)));
        }
        all.add(Check.outcome(() -> x.add(0, 0, 1)));
        all.add(Check.outcome(() -> x.law('o', 0, 1, false)));
        all.add(Check.outcome(x::person));
        all.add(Check.outcome(() -> x.warrant(0, 'f', 0, 0, 0, 0, 1, -1)));
    }

    private static void unchanged(Office office, String what, Class<? extends RuntimeException> due, Refused call) {
        Termreckonry x = office.open();
        Check.fails(what, due, () -> call.by(x));
        Check.is("all answers behind " + what, allAnswers(office.open()), () -> allAnswers(x));
    }

    private static void inBusy(String what, Class<? extends RuntimeException> due, Refused call) {
        unchanged(Refusals::busy, what, due, call);
    }

    private static void busyOffice() {
        refusedCallsOfLaws();
        refusedCallsOfWarrants();
        refusedCallsOfPersons();
        refusedQuestions();
    }

    private static void refusedCallsOfLaws() {
        inBusy("dayOf", Edge.ARGUMENT, x -> x.dayOf(2001, 2, 29));
        inBusy("dateOf", Edge.ARGUMENT, x -> x.dateOf(20000));
        inBusy("length", Edge.ARGUMENT, x -> x.length(0, 41, 0, 0));
        inBusy("law by x", Edge.ARGUMENT, x -> x.law('x', 0, 1, true));
        inBusy("law from -1", Edge.ARGUMENT, x -> x.law('o', -1, 1, true));
        inBusy("law of 9 eighths", Edge.ARGUMENT, x -> x.law('o', 0, 9, true));
        inBusy("lawOf 8", Edge.INDEX, x -> x.lawOf(8));
        inBusy("lawOf one for life", Edge.UNSUPPORTED, x -> x.lawOf(2));
        inBusy("lawOf one without", Edge.ELEMENT, x -> x.lawOf(7));
    }

    private static void refusedCallsOfWarrants() {
        inBusy("warrant of nobody", Edge.INDEX, x -> x.warrant(2, 'f', 0, 0, 0, 0, 1, -1));
        inBusy("warrant behind none", Edge.INDEX, x -> x.warrant(0, 'f', 0, 0, 0, 0, 1, 8));
        inBusy("warrant of kind x", Edge.ARGUMENT, x -> x.warrant(0, 'x', 0, 0, 0, 0, 1, -1));
        inBusy("warrant ahead of the offence", Edge.ARGUMENT, x -> x.warrant(0, 'f', 1, 0, 0, 0, 1, -1));
        inBusy("warrant of 12 months", Edge.ARGUMENT, x -> x.warrant(0, 'f', 0, 0, 0, 12, 1, -1));
        inBusy("warrant of nothing", Edge.ARGUMENT, x -> x.warrant(0, 'f', 0, 0, 0, 0, 0, -1));
        inBusy("warrant behind another's", Edge.UNSUPPORTED, x -> x.warrant(1, 'f', 0, 0, 0, 0, 1, 0));
        inBusy("count for none", Edge.INDEX, x -> x.count(8, 1, false));
        inBusy("count 0", Edge.ARGUMENT, x -> x.count(0, 0, true));
        inBusy("count 1000", Edge.ARGUMENT, x -> x.count(0, MANY, true));
        inBusy("count -5", Edge.ARGUMENT, x -> x.count(6, -5, false));
        inBusy("activate none", Edge.INDEX, x -> x.activate(8, 200));
        inBusy("activate ahead of the passing", Edge.ARGUMENT, x -> x.activate(4, 149));
        inBusy("activate on the day 20000", Edge.ARGUMENT, x -> x.activate(4, 20000));
        inBusy("activate what runs", Edge.UNSUPPORTED, x -> x.activate(5, 200));
        inBusy("activate a fixed one", Edge.UNSUPPORTED, x -> x.activate(0, 200));
        inBusy("vary none", Edge.INDEX, x -> x.vary(8, 1, 0, 0));
        inBusy("vary to 41 years", Edge.ARGUMENT, x -> x.vary(0, 41, 0, 0));
        inBusy("vary to 10000 days", Edge.ARGUMENT, x -> x.vary(0, 1, 1, 10000));
        inBusy("vary to nothing", Edge.ARGUMENT, x -> x.vary(0, 0, 0, 0));
        inBusy("quash none", Edge.INDEX, x -> x.quash(8));
        inBusy("approve none", Edge.INDEX, x -> x.approve(8, 200));
        inBusy("approve on the day 20000", Edge.ARGUMENT, x -> x.approve(2, 20000));
        inBusy("approve on the day -1", Edge.ARGUMENT, x -> x.approve(6, -1));
    }

    private static void refusedCallsOfPersons() {
        inBusy("add for nobody", Edge.INDEX, x -> x.add(2, 110, 5));
        inBusy("add on the day -1", Edge.ARGUMENT, x -> x.add(0, -1, 5));
        inBusy("add 201", Edge.ARGUMENT, x -> x.add(0, 110, 201));
        inBusy("giveBack of none", Edge.INDEX, x -> x.giveBack(2, 1));
        inBusy("giveBack too many", Edge.ARGUMENT, x -> x.giveBack(0, 9));
        inBusy("giveBack 0", Edge.ARGUMENT, x -> x.giveBack(0, 0));
        inBusy("giveBack -1", Edge.ARGUMENT, x -> x.giveBack(0, -1));
        inBusy("atLarge of nobody", Edge.INDEX, x -> x.atLarge(2, 110, 120));
        inBusy("atLarge from -1", Edge.ARGUMENT, x -> x.atLarge(0, -1, 120));
        inBusy("atLarge to 20001", Edge.ARGUMENT, x -> x.atLarge(0, 110, 20001));
        inBusy("atLarge backwards", Edge.ARGUMENT, x -> x.atLarge(0, 120, 110));
        inBusy("held of nobody", Edge.INDEX, x -> x.held(2, 110, 120));
        inBusy("held from -1", Edge.ARGUMENT, x -> x.held(0, -1, 120));
        inBusy("held to 20001", Edge.ARGUMENT, x -> x.held(0, 110, 20001));
        inBusy("held backwards", Edge.ARGUMENT, x -> x.held(0, 120, 110));
        inBusy("recall of nobody", Edge.INDEX, x -> x.recall(2, 340, 's'));
        inBusy("recall on the day -1", Edge.ARGUMENT, x -> x.recall(0, -1, 's'));
        inBusy("recall of kind x", Edge.ARGUMENT, x -> x.recall(0, 340, 'x'));
        inBusy("recall in prison", Edge.UNSUPPORTED, x -> x.recall(0, 110, 's'));
        inBusy("recall of the recalled", Edge.UNSUPPORTED, x -> x.recall(0, 325, 's'));
        inBusy("letGo of nobody", Edge.INDEX, x -> x.letGo(2, 325));
        inBusy("letGo on the day 20000", Edge.ARGUMENT, x -> x.letGo(0, 20000));
        inBusy("letGo behind it", Edge.UNSUPPORTED, x -> x.letGo(0, 330));
        inBusy("letGo ahead of it", Edge.UNSUPPORTED, x -> x.letGo(0, 319));
    }

    private static void refusedQuestions() {
        inBusy("begins", Edge.ELEMENT, x -> x.begins(4));
        inBusy("needed", Edge.ELEMENT, x -> x.needed(7));
        inBusy("release", Edge.INDEX, x -> x.release(-1));
        inBusy("end", Edge.ELEMENT, x -> x.end(2));
        inBusy("stateOn", Edge.INDEX, x -> x.stateOn(2, 0));
        inBusy("byClerk", Edge.ARGUMENT, x -> x.byClerk(0, 20000));
        inBusy("keeper", Edge.ELEMENT, x -> x.keeper(0, 0));
        inBusy("tooLong", Edge.ARGUMENT, x -> x.tooLong(0, 20001));
        inBusy("tooShort", Edge.ARGUMENT, x -> x.tooShort(0, -1));
        inBusy("prisonShare", Edge.ARGUMENT, x -> x.prisonShare(-1));
    }

    private static void inFull(String what, Class<? extends RuntimeException> due, Refused call) {
        unchanged(Edge::full, what, due, call);
    }

    private static void fullOffice() {
        inFull("a seventh person", Edge.STATE, Termreckonry::person);
        inFull("a ninth law", Edge.STATE, x -> x.law('o', 0, 1, true));
        inFull("a 25th warrant", Edge.STATE, x -> x.warrant(0, 'f', 0, 0, 0, 0, 1, -1));
        inFull("added ones a 31st time", Edge.STATE, x -> x.add(1, 310, 5));
        inFull("a 21st recall", Edge.STATE, x -> x.recall(0, 4950, 's'));
        unchanged(Termreckonry::new, "a share of nobody", Edge.ARITHMETIC, x -> x.prisonShare(0));
        unchanged(Termreckonry::new, "a mean of none", Edge.ARITHMETIC, Termreckonry::meanNeeded);
    }

    // ---- which one is first

    private static void firstOfCalendarAndLaws() {
        Termreckonry full = Edge.full();
        Check.fails("law: wrong way, full", Edge.ARGUMENT, () -> full.law('x', 0, 1, false));
        Check.fails("law: wrong day, full", Edge.ARGUMENT, () -> full.law('o', 20000, 1, false));
        Check.fails("law: wrong eighths, full", Edge.ARGUMENT, () -> full.law('o', 0, 9, false));
        Check.fails("law: full", Edge.STATE, () -> full.law('o', 0, 8, false));
        Termreckonry x = Edge.one('l', 0, 1);
        x.warrant(0, 'd', 0, 0, 0, 0, 1, -1);
        Check.fails("lawOf: for life, and no law", Edge.UNSUPPORTED, () -> x.lawOf(0));
        Check.fails("lawOf: in default, and no law", Edge.UNSUPPORTED, () -> x.lawOf(1));
    }

    private static void firstOfWarrants() {
        Termreckonry full = Edge.full();
        Check.fails("no person, all else wrong", Edge.INDEX, () -> full.warrant(6, 'x', -1, -2, 41, 12, -1, 1));
        Check.fails("behind none, all else wrong", Edge.INDEX, () -> full.warrant(0, 'x', -1, -2, 41, 12, -1, 24));
        Check.fails("behind -2, all else wrong", Edge.INDEX, () -> full.warrant(0, 'x', -1, -2, 41, 12, -1, -2));
        Check.fails("kind, another's, full", Edge.ARGUMENT, () -> full.warrant(0, 'x', 0, 0, 0, 0, 1, 1));
        Check.fails("offence, another's, full", Edge.ARGUMENT, () -> full.warrant(0, 'f', -1, 0, 0, 0, 1, 1));
        Check.fails("passing, another's, full", Edge.ARGUMENT, () -> full.warrant(0, 'f', 1, 0, 0, 0, 1, 1));
        Check.fails("years, another's, full", Edge.ARGUMENT, () -> full.warrant(0, 'f', 0, 0, 41, 0, 1, 1));
        Check.fails("months, another's, full", Edge.ARGUMENT, () -> full.warrant(0, 'f', 0, 0, 0, 12, 1, 1));
        Check.fails("days, another's, full", Edge.ARGUMENT, () -> full.warrant(0, 'f', 0, 0, 0, 0, 10000, 1));
        Check.fails("nothing, another's, full", Edge.ARGUMENT, () -> full.warrant(0, 'f', 0, 0, 0, 0, 0, 1));
        Check.fails("another's, full", Edge.UNSUPPORTED, () -> full.warrant(0, 'f', 0, 0, 0, 0, 1, 1));
        Check.fails("full", Edge.STATE, () -> full.warrant(0, 'f', 0, 0, 0, 0, 1, 0));
        Termreckonry x = Edge.persons(2);
        x.warrant(0, 'f', 0, 0, 0, 0, 1, -1);
        Check.fails("no person, behind another's", Edge.INDEX, () -> x.warrant(2, 'f', 0, 0, 0, 0, 1, 0));
        Check.fails("no warrant, nothing", Edge.INDEX, () -> x.warrant(0, 'f', 0, 0, 0, 0, 0, 1));
        Check.fails("nothing, behind another's", Edge.ARGUMENT, () -> x.warrant(1, 'f', 0, 0, 0, 0, 0, 0));
    }

    private static void firstOfOneWarrant() {
        Termreckonry x = busy();
        Check.fails("count: no warrant, 0 days", Edge.INDEX, () -> x.count(8, 0, false));
        Check.fails("activate: no warrant, wrong day", Edge.INDEX, () -> x.activate(8, -1));
        Check.fails("activate: day -1, a fixed one", Edge.ARGUMENT, () -> x.activate(0, -1));
        Check.fails("activate: day 20000, a fixed one", Edge.ARGUMENT, () -> x.activate(0, 20000));
        Check.fails("activate: ahead of its passing, a fixed one", Edge.ARGUMENT, () -> x.activate(0, 99));
        Check.fails("activate: ahead of its passing, one for life", Edge.ARGUMENT, () -> x.activate(2, 129));
        Check.fails("activate: ahead of its passing, it runs", Edge.ARGUMENT, () -> x.activate(5, 149));
        Check.fails("activate: day 20000, it runs", Edge.ARGUMENT, () -> x.activate(5, 20000));
        Check.fails("activate: it runs", Edge.UNSUPPORTED, () -> x.activate(5, 150));
        Check.fails("vary: no warrant, nothing", Edge.INDEX, () -> x.vary(8, 0, 0, 0));
        Check.fails("vary: no warrant, wrong years", Edge.INDEX, () -> x.vary(-1, 41, 0, 0));
        Check.fails("approve: no warrant, wrong day", Edge.INDEX, () -> x.approve(8, 20000));
    }

    private static void firstOfPersons() {
        Termreckonry x = busy();
        Termreckonry full = Edge.full();
        Check.fails("add: nobody, wrong day, full", Edge.INDEX, () -> full.add(6, -1, 0));
        Check.fails("add: wrong day, full", Edge.ARGUMENT, () -> full.add(0, 20000, 1));
        Check.fails("add: 0 days, full", Edge.ARGUMENT, () -> full.add(0, 0, 0));
        Check.fails("add: full", Edge.STATE, () -> full.add(0, 0, 1));
        Check.fails("giveBack: none, 0 days", Edge.INDEX, () -> x.giveBack(2, 0));
        Check.fails("giveBack: none, too many", Edge.INDEX, () -> x.giveBack(-1, MANY));
        Check.fails("atLarge: nobody, wrong days", Edge.INDEX, () -> x.atLarge(2, 5, 5));
        Check.fails("held: nobody, wrong days", Edge.INDEX, () -> x.held(2, 5, 5));
        Check.fails("recall: nobody, all else wrong", Edge.INDEX, () -> full.recall(6, -1, 'x'));
        Check.fails("recall: wrong day, wrong kind, full", Edge.ARGUMENT, () -> full.recall(0, -1, 'x'));
        Check.fails("recall: wrong kind, in prison, full", Edge.ARGUMENT, () -> full.recall(0, 0, 'x'));
        Check.fails("recall: wrong kind, full", Edge.ARGUMENT, () -> full.recall(0, 4950, 'x'));
        Check.fails("recall: wrong day, full", Edge.ARGUMENT, () -> full.recall(0, 20000, 'f'));
        Check.fails("recall: owes nothing, full", Edge.UNSUPPORTED, () -> full.recall(0, 0, 'f'));
        Check.fails("recall: full", Edge.STATE, () -> full.recall(0, 4950, 'f'));
        Check.fails("letGo: nobody, wrong day", Edge.INDEX, () -> x.letGo(2, 20000));
        Check.fails("letGo: wrong day, no recall", Edge.ARGUMENT, () -> x.letGo(0, 20000));
        Check.fails("letGo: day -1, no recall", Edge.ARGUMENT, () -> x.letGo(0, -1));
    }

    private static void firstOfAnswers() {
        Termreckonry x = new Termreckonry();
        Check.fails("stateOn", Edge.INDEX, () -> x.stateOn(0, -1));
        Check.fails("byClerk", Edge.INDEX, () -> x.byClerk(0, 20000));
        Check.fails("keeper", Edge.INDEX, () -> x.keeper(0, -1));
        Check.fails("tooLong", Edge.INDEX, () -> x.tooLong(0, -1));
        Check.fails("tooShort", Edge.INDEX, () -> x.tooShort(0, 20001));
        Check.fails("prisonShare: wrong day, no persons", Edge.ARGUMENT, () -> x.prisonShare(20000));
        x.person();
        Check.fails("keeper: wrong day, none keeps", Edge.ARGUMENT, () -> x.keeper(0, 20000));
    }
}

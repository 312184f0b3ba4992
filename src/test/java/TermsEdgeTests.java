/** Each sentence of "What it is" and of "Terms" that names a boundary case has a test of its own. */
public final class TermsEdgeTests {
    private static final int CALLS = 512;

    private TermsEdgeTests() {
    }

    public static void main(String[] args) {
        calls();
        TermsOfWarrants.run();
        TermsOfStates.run();
        Refusals.run();
        Sentence.allOf("Terms");
        Check.end("TermsEdgeTests");
    }

    private static void calls() {
        Sentence.of("What it is", "An object is used for at most 512 calls after it has been made", () -> {
            countingCalls();
            callsOfAFullOffice();
            refusedCalls();
        });
    }

    private static void countingCalls() {
        Termreckonry x = Edge.one('f', 0, 9999);
        for (int call = 3; call < CALLS; call++) {
            int due = 999 * (call - 2);
            Check.is("call " + call, due, () -> x.count(0, 999, false));
        }
        Check.is("the last call", 0, () -> x.needed(0));
    }

    private static void callsOfAFullOffice() {
        // 104 calls have been made by this
        Termreckonry x = Edge.full();
        for (int call = 105; call < CALLS; call++) {
            int day = 49 * (call - 104);
            int person = call % 6;
            Check.is("call " + call, Edge.full().byClerk(person, day), () -> x.stateOn(person, day));
        }
        Check.is("the last call", true, x::isTrue);
    }

    private static void refusedCalls() {
        Termreckonry x = Edge.onLicence();
        for (int call = 3; call < CALLS; call++) {
            Check.fails("call " + call, Edge.UNSUPPORTED, () -> x.recall(0, 99, 's'));
        }
        Check.is("the last call", 1, () -> x.recall(0, 150, 's'));
    }
}

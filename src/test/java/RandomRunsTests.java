/** Runs of calls that a fixed row of numbers leads to, each answer compared with that of the model. */
public final class RandomRunsTests {
    private static final int RUNS = 700;
    private static final int CALLS = 505;
    private static final int[] STARTS = {0, 40, 700, 3500, 9000, 19500};

    private final Termreckonry x = new Termreckonry();
    private final Model m = new Model();
    private final String run;
    private final int start;
    private final int width;
    private final int persons;
    private long seed;
    private int calls = 0;

    private RandomRunsTests(int run) {
        this.run = "run " + run;
        this.seed = 77777L * run + 5;
        this.start = STARTS[next(STARTS.length)];
        this.width = next(3) == 0 ? 3000 : 400;
        this.persons = 1 + next(3);
    }

    public static void main(String[] args) {
        for (int run = 0; run < RUNS; run++) {
            new RandomRunsTests(run).go();
        }
        Check.end("RandomRunsTests");
    }

    // ---- numbers

    private int next(int bound) {
        seed = seed * 6364136223846793005L + 1442695040888963407L;
        return (int) ((seed >>> 33) % bound);
    }

    private boolean chance(int inHundred) {
        return next(100) < inHundred;
    }

    private int day() {
        int kind = next(100);
        if (kind < 40) {
            return nearFigure();
        }
        if (kind < 96) {
            return Math.min(19999, start + next(width));
        }
        return new int[] {0, 19999, 20000, -1, 3880, 97, Integer.MIN_VALUE, Integer.MAX_VALUE}[next(8)];
    }

    /** A day beside the beginning, the release or the end of some warrant, where most edges are. */
    private int nearFigure() {
        int warrant = next(Math.max(1, m.warrants()));
        int which = next(3);
        Object day = Check.outcome(() -> {
            return which == 0 ? m.begins(warrant) : which == 1 ? m.release(warrant) : m.end(warrant);
        });
        if (day instanceof Integer) {
            return (Integer) day + next(3) - 1 + (chance(20) ? 27 + next(3) : 0);
        }
        return Math.min(19999, start + next(width));
    }

    private int warrant() {
        return chance(97) ? next(Math.max(1, m.warrants())) : new int[] {-1, 24, m.warrants(), -2}[next(4)];
    }

    private int someone() {
        return chance(97) ? next(persons) : new int[] {-1, 6, persons, 5}[next(4)];
    }

    private int upTo(int most) {
        return chance(97) ? next(most + 1) : new int[] {-1, most + 1, most, 0}[next(4)];
    }

    private char kindOf(String kinds) {
        return chance(97) ? kinds.charAt(next(kinds.length())) : 'x';
    }

    // ---- calls

    private void go() {
        for (int p = 0; p < persons; p++) {
            same("person()", x::person, m::person);
        }
        if (chance(50)) {
            makeLaw();
        }
        while (calls < CALLS - 110) {
            change();
            ask();
            if (chance(50)) {
                ask();
            }
        }
        lastLook();
    }

    private void same(String call, Check.Call got, Check.Call due) {
        calls++;
        Check.is(run + ", call " + calls + ": " + call, Check.outcome(due), got);
    }

    private void change() {
        int call = next(100);
        if (call < 4) {
            makeLaw();
        } else if (call < 5) {
            same("person()", x::person, m::person);
        } else if (call < 22) {
            pass();
        } else if (call < 60) {
            changeWarrant();
        } else {
            changePerson();
        }
    }

    private void makeLaw() {
        char by = kindOf("op");
        int from = day();
        int eighths = chance(95) ? 1 + next(8) : new int[] {0, 9}[next(2)];
        boolean board = chance(25);
        same("law(" + by + " " + from + " " + eighths + " " + board + ")",
                () -> x.law(by, from, eighths, board), () -> m.law(by, from, eighths, board));
    }

    private void pass() {
        int p = someone();
        char kind = kindOf("fffflddsss");
        int passed = day();
        int offence = chance(90) ? Math.max(0, passed - next(200)) : day();
        int years = chance(80) ? 0 : chance(80) ? next(3) : upTo(40);
        int months = chance(50) ? 0 : upTo(11);
        int days = chance(97) ? next(150) : upTo(9999);
        int behind = chance(45) ? -1 : warrant();
        same("warrant(" + p + " " + kind + " " + offence + " " + passed + " " + years + " " + months + " "
                + days + " " + behind + ")",
                () -> x.warrant(p, kind, offence, passed, years, months, days, behind),
                () -> m.warrant(p, kind, offence, passed, years, months, days, behind));
    }

    private void changeWarrant() {
        int w = warrant();
        int call = next(100);
        if (call < 20) {
            int days = chance(90) ? 1 + next(40) : upTo(1000);
            boolean tag = chance(50);
            same("count(" + w + " " + days + " " + tag + ")",
                    () -> x.count(w, days, tag), () -> m.count(w, days, tag));
        } else if (call < 50) {
            int day = day();
            same("activate(" + w + " " + day + ")", () -> x.activate(w, day), () -> m.activate(w, day));
        } else if (call < 62) {
            int years = chance(90) ? 0 : upTo(40);
            int months = chance(60) ? 0 : upTo(11);
            int days = chance(90) ? next(200) : upTo(9999);
            same("vary(" + w + " " + years + " " + months + " " + days + ")",
                    () -> x.vary(w, years, months, days), () -> m.vary(w, years, months, days));
        } else if (call < 68) {
            same("quash(" + w + ")", () -> x.quash(w), () -> m.quash(w));
        } else {
            int day = day();
            same("approve(" + w + " " + day + ")", () -> x.approve(w, day), () -> m.approve(w, day));
        }
    }

    private void changePerson() {
        int p = someone();
        int day = day();
        int call = next(100);
        if (call < 25) {
            int days = chance(80) ? 1 + next(30) : upTo(201);
            same("add(" + p + " " + day + " " + days + ")", () -> x.add(p, day, days), () -> m.add(p, day, days));
        } else if (call < 35) {
            int which = next(8) - (chance(3) ? 9 : 0);
            int days = next(20);
            same("giveBack(" + which + " " + days + ")",
                    () -> x.giveBack(which, days), () -> m.giveBack(which, days));
        } else if (call < 50) {
            int to = day + next(chance(95) ? 20 : 20000);
            same("atLarge(" + p + " " + day + " " + to + ")",
                    () -> x.atLarge(p, day, to), () -> m.atLarge(p, day, to));
        } else if (call < 62) {
            int to = day + next(chance(80) ? 150 : 20000);
            same("held(" + p + " " + day + " " + to + ")", () -> x.held(p, day, to), () -> m.held(p, day, to));
        } else if (call < 87) {
            char kind = kindOf("fs");
            same("recall(" + p + " " + day + " " + kind + ")",
                    () -> x.recall(p, day, kind), () -> m.recall(p, day, kind));
        } else {
            same("letGo(" + p + " " + day + ")", () -> x.letGo(p, day), () -> m.letGo(p, day));
        }
    }

    private void ask() {
        int w = warrant();
        int p = someone();
        int day = day();
        switch (next(17)) {
            case 0 -> same("lawOf(" + w + ")", () -> x.lawOf(w), () -> m.lawOf(w));
            case 1 -> same("begins(" + w + ")", () -> x.begins(w), () -> m.begins(w));
            case 2 -> same("needed(" + w + ")", () -> x.needed(w), () -> m.needed(w));
            case 3, 4 -> same("release(" + w + ")", () -> x.release(w), () -> m.release(w));
            case 5 -> same("end(" + w + ")", () -> x.end(w), () -> m.end(w));
            case 6, 7, 8 -> same("stateOn(" + p + " " + day + ")", () -> x.stateOn(p, day), () -> m.stateOn(p, day));
            case 9 -> same("byClerk(" + p + " " + day + ")", () -> x.byClerk(p, day), () -> m.stateOn(p, day));
            case 10 -> same("keeper(" + p + " " + day + ")", () -> x.keeper(p, day), () -> m.keeper(p, day));
            case 11 -> same("tooLong(" + p + " " + day + ")", () -> x.tooLong(p, day), () -> m.tooLong(p, day));
            case 12 -> same("tooShort(" + p + " " + day + ")", () -> x.tooShort(p, day), () -> m.tooShort(p, day));
            case 13 -> same("owed()", x::owed, m::owed);
            case 14 -> same("prisonShare(" + day + ")", () -> x.prisonShare(day), () -> m.prisonShare(day));
            case 15 -> same("meanNeeded()", x::meanNeeded, m::meanNeeded);
            default -> same("warrants()", x::warrants, m::warrants);
        }
    }

    private void lastLook() {
        same("isTrue()", x::isTrue, () -> true);
        for (int w = 0; w < Math.min(15, m.warrants()); w++) {
            int n = w;
            same("begins(" + w + ")", () -> x.begins(n), () -> m.begins(n));
            same("needed(" + w + ")", () -> x.needed(n), () -> m.needed(n));
            same("release(" + w + ")", () -> x.release(n), () -> m.release(n));
            same("end(" + w + ")", () -> x.end(n), () -> m.end(n));
        }
        while (calls < CALLS - 1) {
            int p = next(persons);
            int day = day();
            same("stateOn(" + p + " " + day + ")", () -> x.stateOn(p, day), () -> m.stateOn(p, day));
            same("byClerk(" + p + " " + day + ")", () -> x.byClerk(p, day), () -> m.stateOn(p, day));
        }
    }
}

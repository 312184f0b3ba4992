/** The sentences of "Terms" on releases, licences, states, recalls and days really held. */
final class TermsOfStates {
    private TermsOfStates() {
    }

    static void run() {
        ways();
        served();
        releases();
        boards();
        licences();
        otherLicences();
        states();
        atLarge();
        recalled();
        recallOf28Days();
        endsForGood();
        warrantsThatWereThere();
        boardLetsGo();
        holding();
    }

    private static void says(String words, Runnable test) {
        Sentence.of("Terms", words, test);
    }

    private static void ways() {
        says("For each day of each person there is one state that the warrants give, and it is found, too, by a clerk"
                + " who counts day by day.", () -> {
            Termreckonry x = Edge.persons(2);
            Edge.states(x, 0, 0, "o");
            Edge.states(x, 1, 19999, "o");
            x.warrant(1, 'd', 0, 0, 0, 0, 1, -1);
            x.warrant(1, 'd', 0, 19999, 0, 0, 1, -1);
            Edge.states(x, 1, 0, "po");
            Edge.states(x, 1, 19998, "op");
            Edge.states(x, 0, 0, "o");
            Edge.states(x, 0, 19999, "o");
        });
    }

    // ---- releases

    private static void served() {
        says("A warrant is served on each day from its beginning on on which the person is not at large.", () -> {
            Termreckonry x = Edge.one('d', 100, 10);
            x.atLarge(0, 90, 100);
            Check.is("at large ahead of the beginning", 110, () -> x.release(0));
            x.atLarge(0, 100, 101);
            Check.is("on the first day", 111, () -> x.release(0));
            x.atLarge(0, 111, 120);
            Check.is("from the release on", 111, () -> x.release(0));
            x.atLarge(0, 110, 111);
            Check.is("on the last day of all", 121, () -> x.release(0));
            Check.is("of another person", 1, () -> {
                x.person();
                return x.atLarge(1, 105, 106);
            });
            Check.is("nothing changes by that", 121, () -> x.release(0));
            Termreckonry y = Edge.one('d', 0, 1);
            y.atLarge(0, 0, 19999);
            Check.is("only the day 19999 is left", "throws.NoSuchElementException",
                    () -> Check.outcome(() -> y.release(0)));
            Termreckonry z = Edge.one('d', 0, 1);
            z.atLarge(0, 0, 19998);
            Check.is("the day 19998 is left, too", 19999, () -> z.release(0));
        });
    }

    private static void releases() {
        says("The release by it is the first day ahead of which, from its beginning on, as many days were served as are"
                + " needed", () -> {
            Termreckonry x = Edge.one('d', 100, 3);
            Check.is("three days", 103, () -> x.release(0));
            x.count(0, 2, false);
            Check.is("one day", 101, () -> x.release(0));
            x.count(0, 1, false);
            Check.is("none", 100, () -> x.release(0));
            x.atLarge(0, 95, 110);
            Check.is("none, and at large", 100, () -> x.release(0));
            for (int day = 62; day <= 66; day++) {
                Termreckonry y = Edge.one('d', day, 64);
                int passed = day;
                Check.is("64 days from " + day, day + 64, () -> y.release(0));
                y.atLarge(0, 63, 65);
                int away = Math.max(0, 65 - Math.max(63, day));
                Check.is("without those at large", passed + 64 + away, () -> y.release(0));
            }
        });
        says("A release later than the day 19999 is none.", () -> {
            Termreckonry x = Edge.persons(1);
            x.warrant(0, 'd', 0, 19990, 0, 0, 9, -1);
            x.warrant(0, 'd', 0, 19990, 0, 0, 10, -1);
            x.warrant(0, 'f', 0, 0, 40, 11, 9999, -1);
            x.warrant(0, 'd', 0, 0, 40, 11, 9999, -1);
            x.warrant(0, 'f', 0, 19999, 0, 0, 1, -1);
            Edge.figures(x, 0, 19990, 9, 19999, Edge.NONE);
            Edge.figures(x, 1, 19990, 10, Edge.NONE, Edge.NONE);
            // 14945 days of 40 years and 11 months, and 9999
            Edge.figures(x, 2, 0, 12472, 12472, 24944);
            Edge.figures(x, 3, 0, 24944, Edge.NONE, Edge.NONE);
            Edge.figures(x, 4, 19999, 1, Edge.NONE, Edge.NONE);
            Edge.states(x, 0, 19998, "pp");
            x.count(4, 1, false);
            Edge.figures(x, 4, 19999, 0, 19999, Edge.NONE);
        });
    }

    private static void boards() {
        says("if a board must say yes, by its law or for life", () -> {
            Termreckonry x = Edge.persons(1);
            x.law('p', 100, 4, true);
            x.warrant(0, 'f', 99, 99, 0, 0, 20, -1);
            x.warrant(0, 'f', 99, 100, 0, 0, 20, -1);
            x.warrant(0, 's', 99, 100, 0, 0, 20, -1);
            x.activate(2, 100);
            x.warrant(0, 'l', 99, 99, 0, 0, 20, -1);
            x.warrant(0, 'd', 99, 100, 0, 0, 20, -1);
            Edge.figures(x, 0, 99, 10, 109, 119);
            Edge.figures(x, 1, 100, 10, Edge.NONE, Edge.NONE);
            Edge.figures(x, 2, 100, 10, Edge.NONE, Edge.NONE);
            Edge.figures(x, 3, 99, 20, Edge.NONE, Edge.NONE);
            Edge.figures(x, 4, 100, 20, 120, Edge.NONE);
            for (int w = 0; w < 5; w++) {
                x.approve(w, 119);
            }
            Edge.figures(x, 0, 99, 10, 109, 119);
            Edge.figures(x, 1, 100, 10, 119, 120);
            Edge.figures(x, 2, 100, 10, 119, 120);
            Edge.figures(x, 3, 99, 20, 119, Edge.NONE);
            Edge.figures(x, 4, 100, 20, 120, Edge.NONE);
        });
        says("it is the first such day from the day of the yes on", () -> {
            Termreckonry x = Edge.one('l', 100, 40);
            int[] yes = {0, 99, 100, 139, 140, 141, 19999};
            int[] due = {140, 140, 140, 140, 140, 141, 19999};
            for (int n = 0; n < yes.length; n++) {
                x.approve(0, yes[n]);
                Check.is("yes on " + yes[n], due[n], () -> x.release(0));
            }
            Edge.states(x, 0, 19998, "pl");
            x.atLarge(0, 120, 122);
            x.approve(0, 141);
            Check.is("at large, so that the yes is too early", 142, () -> x.release(0));
        });
        says("and there is none without a yes", () -> {
            Termreckonry x = Edge.one('l', 100, 1);
            Check.fails("long ago", Edge.ELEMENT, () -> x.release(0));
            x.count(0, 1, false);
            Check.fails("nothing is needed", Edge.ELEMENT, () -> x.release(0));
            Edge.states(x, 0, 19999, "p");
            x.approve(0, 0);
            Check.is("a yes on the day 0 is one", 100, () -> x.release(0));
        });
    }

    // ---- licences

    private static void licences() {
        says("A fixed warrant, or one made to run, is followed by a licence from its release on, up to the day ahead of"
                + " its end", () -> {
            Termreckonry x = Edge.persons(2);
            x.warrant(0, 'f', 0, 100, 0, 0, 40, -1);
            x.warrant(1, 's', 0, 90, 0, 0, 40, -1);
            x.activate(1, 100);
            for (int person = 0; person < 2; person++) {
                Edge.states(x, person, 99, "op");
                Edge.states(x, person, 119, "pl");
                Edge.states(x, person, 139, "lo");
            }
        });
        says("its beginning, plus the length, less the days that count already, plus the days at large from its"
                + " beginning up to its release", () -> {
            Termreckonry x = Edge.one('f', 100, 40);
            Edge.figures(x, 0, 100, 20, 120, 140);
            x.count(0, 10, false);
            Edge.figures(x, 0, 100, 10, 110, 130);
            x.atLarge(0, 90, 100);
            Edge.figures(x, 0, 100, 10, 110, 130);
            x.atLarge(0, 100, 101);
            Edge.figures(x, 0, 100, 10, 111, 131);
            x.atLarge(0, 112, 115);
            Edge.figures(x, 0, 100, 10, 111, 131);
            // 100 and from 110 up to 114, so that 115 is served
            x.atLarge(0, 110, 112);
            Edge.figures(x, 0, 100, 10, 116, 136);
            x.atLarge(0, 116, 20000);
            Edge.figures(x, 0, 100, 10, 116, 136);
            Termreckonry late = Edge.onLicence();
            late.atLarge(0, 152, 154);
            Edge.figures(late, 0, 100, 50, 150, 200);
            late.add(0, 149, 5);
            Edge.figures(late, 0, 100, 55, 157, 202);
            Edge.states(late, 0, 156, "pl");
            Edge.states(late, 0, 201, "lo");
            Termreckonry z = Edge.one('f', 0, 20);
            z.atLarge(0, 0, 1);
            Edge.figures(z, 0, 0, 10, 11, 21);
            z.atLarge(0, 12, 30);
            Edge.figures(z, 0, 0, 10, 11, 21);
            Termreckonry y = Edge.one('f', 19990, 12);
            Edge.figures(y, 0, 19990, 6, 19996, 20002);
            Edge.states(y, 0, 19995, "pllll");
        });
        says("if there is no release, or the end is not later, there is no licence", () -> {
            Termreckonry x = Edge.one('f', 100, 40);
            x.law('o', 0, 4, true);
            Edge.figures(x, 0, 100, 20, Edge.NONE, Edge.NONE);
            x.approve(0, 139);
            Edge.figures(x, 0, 100, 20, 139, 140);
            Edge.states(x, 0, 138, "plo");
            x.approve(0, 140);
            Edge.figures(x, 0, 100, 20, 140, Edge.NONE);
            Edge.states(x, 0, 139, "po");
            x.approve(0, 141);
            Edge.figures(x, 0, 100, 20, 141, Edge.NONE);
            Edge.states(x, 0, 139, "ppo");
            Termreckonry y = Edge.one('f', 100, 40);
            y.count(0, 39, false);
            Edge.figures(y, 0, 100, 0, 100, 101);
            Edge.states(y, 0, 99, "olo");
            y.count(0, 1, false);
            Edge.figures(y, 0, 100, 0, 100, Edge.NONE);
            Edge.states(y, 0, 99, "ooo");
            y.count(0, 999, false);
            Edge.figures(y, 0, 100, 0, 100, Edge.NONE);
            Edge.states(y, 0, 99, "ooo");
        });
    }

    private static void otherLicences() {
        says("One for life has a licence for ever from its release on.", () -> {
            Termreckonry x = Edge.one('l', 100, 40);
            x.approve(0, 0);
            Edge.states(x, 0, 139, "pl");
            Edge.states(x, 0, 19999, "l");
            Check.fails("it has no end", Edge.ELEMENT, () -> x.end(0));
            x.count(0, 999, false);
            Edge.states(x, 0, 99, "ol");
            Edge.states(x, 0, 19999, "l");
            Edge.states(Edge.onLicenceForEver(), 0, 0, "pll");
        });
        says("One in default has none.", () -> {
            Termreckonry x = Edge.one('d', 100, 40);
            Edge.states(x, 0, 139, "po");
            Check.fails("no end", Edge.ELEMENT, () -> x.end(0));
            x.count(0, 10, false);
            Edge.states(x, 0, 129, "po");
            x.law('o', 0, 1, false);
            Edge.states(x, 0, 129, "po");
            Check.fails("no end", Edge.ELEMENT, () -> x.end(0));
            Termreckonry y = Edge.one('d', 0, 1);
            y.count(0, 1, false);
            Edge.figures(y, 0, 0, 0, 0, Edge.NONE);
            Edge.states(y, 0, 0, "oo");
        });
    }

    // ---- states

    private static void states() {
        says("a person is in prison 'p', if some warrant has begun on it or earlier and its release is later, or there"
                + " is none", () -> {
            Termreckonry x = Edge.one('d', 100, 10);
            Edge.states(x, 0, 99, "op");
            Edge.states(x, 0, 109, "po");
            x.warrant(0, 'd', 0, 111, 0, 0, 1, -1);
            x.warrant(0, 'l', 0, 115, 0, 0, 1, -1);
            Edge.states(x, 0, 109, "popo");
            Edge.states(x, 0, 114, "op");
            Edge.states(x, 0, 19999, "p");
            x.approve(2, 0);
            x.warrant(0, 'd', 0, 110, 0, 0, 1, -1);
            Edge.states(x, 0, 109, "pppo");
            Edge.states(x, 0, 115, "pl");
        });
        says("otherwise recalled 'r', if a recall goes on", () -> {
            Termreckonry x = Edge.onLicence();
            x.recall(0, 160, 's');
            x.warrant(0, 'd', 0, 165, 0, 0, 2, -1);
            Edge.states(x, 0, 159, "lr");
            Edge.states(x, 0, 164, "rppr");
            Edge.states(x, 0, 198, "rro");
        });
        says("otherwise on licence 'l', if some warrant has one on this day", () -> {
            Termreckonry x = Edge.onLicence();
            // a second licence from 190 up to 209
            x.warrant(0, 'f', 0, 170, 0, 0, 40, -1);
            Edge.states(x, 0, 149, "pl");
            Edge.states(x, 0, 169, "lp");
            Edge.states(x, 0, 189, "pl");
            Edge.states(x, 0, 199, "ll");
            Edge.states(x, 0, 209, "lo");
        });
        says("otherwise owes nothing 'o'", () -> {
            Termreckonry x = Edge.onLicence();
            Edge.states(x, 0, 0, "o");
            Edge.states(x, 0, 99, "op");
            Edge.states(x, 0, 199, "lo");
            Edge.states(x, 0, 19999, "o");
        });
    }

    private static void atLarge() {
        says("But who is at large on a day on which the state would be 'p' or 'r' is 'a' on it.", () -> {
            Termreckonry x = Edge.onLicence();
            x.recall(0, 160, 's');
            x.atLarge(0, 99, 101);
            // 149 is served no more, but 150 and 151, as 100 and 149 are missed
            x.atLarge(0, 149, 150);
            Edge.states(x, 0, 98, "ooap");
            Edge.states(x, 0, 148, "papplll");
            x.atLarge(0, 154, 155);
            Edge.states(x, 0, 153, "lll");
            x.atLarge(0, 160, 161);
            x.atLarge(0, 201, 203);
            Edge.states(x, 0, 159, "lar");
            Edge.states(x, 0, 200, "raoo");
            Termreckonry y = Edge.one('d', 0, 9999);
            y.atLarge(0, 0, 1);
            y.atLarge(0, 9998, 10000);
            Edge.states(y, 0, 0, "ap");
            Edge.states(y, 0, 9997, "paappo");
            Termreckonry z = Edge.one('l', 0, 1);
            z.atLarge(0, 19999, 20000);
            Edge.states(z, 0, 19998, "pa");
        });
    }

    // ---- recalls

    private static void recalled() {
        says("A person can be recalled on a day on which the state is 'l'.", () -> {
            for (int day : new int[] {150, 151, 199}) {
                Check.is("on licence on " + day, 1, () -> Edge.onLicence().recall(0, day, 's'));
            }
            for (int day : new int[] {0, 99, 100, 149, 200, 19999}) {
                Check.fails("on " + day, Edge.UNSUPPORTED, () -> Edge.onLicence().recall(0, day, 's'));
            }
            Termreckonry x = Edge.onLicence();
            x.recall(0, 160, 's');
            Check.fails("recalled", Edge.UNSUPPORTED, () -> x.recall(0, 160, 's'));
            x.atLarge(0, 161, 162);
            Check.fails("at large", Edge.UNSUPPORTED, () -> x.recall(0, 161, 's'));
            Check.is("ahead of that", 2, () -> x.recall(0, 159, 's'));
            Termreckonry y = Edge.onLicence();
            y.atLarge(0, 160, 161);
            Check.is("at large on licence", 1, () -> y.recall(0, 160, 's'));
            Edge.states(y, 0, 159, "lar");
            Check.is("on the day 19999", 1, () -> Edge.onLicenceForEver().recall(0, 19999, 'f'));
            Termreckonry z = Edge.one('f', 0, 3);
            z.count(0, 2, false);
            Check.is("on the day 0", 1, () -> z.recall(0, 0, 'f'));
            Edge.states(z, 0, 0, "ro");
        });
    }

    private static void recallOf28Days() {
        says("A recall 'f' goes on from that day for 28 days", () -> {
            Termreckonry x = Edge.onLicence();
            x.recall(0, 155, 'f');
            Edge.states(x, 0, 154, "lr");
            Edge.states(x, 0, 182, "rl");
            Termreckonry y = Edge.onLicence();
            y.recall(0, 171, 'f');
            Edge.states(y, 0, 197, "rrlo");
            Termreckonry z = Edge.onLicence();
            z.recall(0, 172, 'f');
            Edge.states(z, 0, 198, "rro");
        });
        says("those at large not counted", () -> {
            Termreckonry x = Edge.onLicence();
            x.recall(0, 155, 'f');
            x.atLarge(0, 154, 156);
            Edge.states(x, 0, 154, "lar");
            Edge.states(x, 0, 183, "rl");
            x.atLarge(0, 183, 184);
            Edge.states(x, 0, 182, "rarl");
            x.atLarge(0, 185, 190);
            Edge.states(x, 0, 182, "rarlll");
            // in prison or not, a day on which the person is not at large counts
            x.warrant(0, 'd', 0, 160, 0, 0, 10, -1);
            Edge.states(x, 0, 182, "rarl");
        });
        says("'s' without such an end", () -> {
            Termreckonry x = Edge.onLicenceForEver();
            x.recall(0, 10, 's');
            Edge.states(x, 0, 9, "lr");
            Edge.states(x, 0, 37, "rrr");
            Edge.states(x, 0, 19999, "r");
        });
    }

    private static void endsForGood() {
        says("It ends, too, for good, on the first day from its own one on on which none of this person's warrants", () -> {
            Termreckonry x = Edge.onLicence();
            // there already, on licence from 250 up to 299
            x.warrant(0, 'f', 0, 200, 0, 0, 100, -1);
            x.recall(0, 195, 's');
            Edge.states(x, 0, 194, "lrrrrrp");
            Edge.states(x, 0, 249, "pl");
            x.quash(1);
            Edge.states(x, 0, 199, "ro");
            Termreckonry y = Edge.persons(2);
            y.warrant(1, 'f', 0, 100, 0, 0, 200, -1);
            y.warrant(0, 'f', 0, 100, 0, 0, 100, -1);
            y.recall(0, 195, 's');
            Edge.states(y, 0, 199, "ro");
            Edge.states(chainOfLicences(), 0, 349, "ro");
        });
        says("has a licence, as things are now", () -> {
            Termreckonry x = Edge.onLicence();
            x.recall(0, 190, 's');
            x.vary(0, 0, 0, 90);
            Edge.states(x, 0, 189, "lo");
            x.vary(0, 0, 0, 91);
            Edge.states(x, 0, 189, "lro");
            x.vary(0, 0, 0, 102);
            Edge.states(x, 0, 189, "lr");
            Edge.states(x, 0, 201, "ro");
            x.quash(0);
            Edge.states(x, 0, 190, "o");
        });
    }

    /** 24 licences of ten days, each beginning when the one before ends, from 110 on; recalled ahead of them. */
    private static Termreckonry chainOfLicences() {
        Termreckonry x = Edge.persons(1);
        x.warrant(0, 'f', 0, 80, 0, 0, 40, -1);
        for (int n = 1; n < 24; n++) {
            x.warrant(0, 'f', 0, 100 + 10 * n, 0, 0, 20, -1);
        }
        x.recall(0, 105, 's');
        return x;
    }

    private static void warrantsThatWereThere() {
        says("that were there when the recall was told", () -> {
            Termreckonry x = Edge.onLicence();
            x.warrant(0, 's', 0, 100, 0, 0, 40, -1);
            x.recall(0, 195, 's');
            // on licence from 196 up to 235, but told behind the recall
            x.warrant(0, 'f', 0, 156, 0, 0, 80, -1);
            Edge.states(x, 0, 199, "rl");
            Edge.states(x, 0, 235, "lo");
            // it was there, though it did not run: in prison from 188 up to 197, on licence up to 207
            x.vary(1, 0, 0, 20);
            x.activate(1, 188);
            Edge.states(x, 0, 197, "pr");
            Edge.states(x, 0, 207, "rl");
        });
    }

    private static void boardLetsGo() {
        says("or on the day on which a board lets the person go again", () -> {
            Termreckonry x = Edge.onLicence();
            x.recall(0, 160, 's');
            x.letGo(0, 170);
            Edge.states(x, 0, 169, "rl");
            x.letGo(0, 160);
            Edge.states(x, 0, 159, "lll");
            Termreckonry y = Edge.onLicence();
            y.recall(0, 150, 'f');
            y.letGo(0, 177);
            Edge.states(y, 0, 176, "rl");
            Termreckonry z = Edge.onLicenceForEver();
            z.recall(0, 100, 's');
            z.letGo(0, 19999);
            Edge.states(z, 0, 19998, "rl");
        });
    }

    // ---- holding

    private static void wrong(Termreckonry x, int person, int before, int tooLong, int tooShort) {
        Check.is("too long before " + before, tooLong, () -> x.tooLong(person, before));
        Check.is("too short before " + before, tooShort, () -> x.tooShort(person, before));
    }

    private static void holding() {
        says("It is told from when to when a person was really held.", () -> {
            Termreckonry x = Edge.persons(2);
            Check.is("from 10, to the day behind 19", 10, () -> x.held(0, 10, 20));
            wrong(x, 0, 10, 0, 0);
            wrong(x, 0, 11, 1, 0);
            wrong(x, 0, 20, 10, 0);
            wrong(x, 0, 20000, 10, 0);
            wrong(x, 1, 20000, 0, 0);
            Edge.states(x, 0, 10, "o");
        });
        says("A day is too long if the person was held on it, and the state is 'l' or 'o'", () -> {
            Termreckonry x = Edge.onLicence();
            x.held(0, 0, 20000);
            wrong(x, 0, 20000, 20000 - 50, 0);
            wrong(x, 0, 100, 100, 0);
            wrong(x, 0, 150, 100, 0);
            wrong(x, 0, 151, 101, 0);
            x.recall(0, 160, 'f');
            wrong(x, 0, 20000, 20000 - 50 - 28, 0);
            x.atLarge(0, 100, 110);
            // in prison up to 159 then, and recalled as before; neither is who is at large in prison
            wrong(x, 0, 20000, 20000 - 60 - 28, 0);
            x.atLarge(0, 300, 310);
            wrong(x, 0, 20000, 20000 - 60 - 28, 0);
        });
        says("too short if not, and the state is 'p' or 'r'", () -> {
            Termreckonry x = Edge.onLicence();
            wrong(x, 0, 100, 0, 0);
            wrong(x, 0, 101, 0, 1);
            wrong(x, 0, 20000, 0, 50);
            x.recall(0, 160, 'f');
            wrong(x, 0, 20000, 0, 78);
            x.held(0, 101, 149);
            wrong(x, 0, 20000, 0, 30);
            x.held(0, 160, 161);
            wrong(x, 0, 20000, 0, 29);
            // 'a' on 100, on 187 and on 188, where it would be 'r'; in prison up to 150, recalled up to 189
            x.atLarge(0, 100, 101);
            x.atLarge(0, 187, 189);
            wrong(x, 0, 20000, 0, 29);
            Termreckonry y = Edge.one('l', 0, 1);
            wrong(y, 0, 20000, 0, 20000);
            wrong(y, 0, 0, 0, 0);
            y.held(0, 0, 1);
            y.held(0, 19999, 20000);
            wrong(y, 0, 20000, 0, 19998);
        });
    }
}

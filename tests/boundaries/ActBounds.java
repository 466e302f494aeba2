/** The sentences of the promises 1 to 10: a new object, jars, rules, prices, customers. */
final class ActBounds {
    /** No jar of a shop whose jars are 1, 2 and 4: below, behind and between them, and such as wrap around. */
    private static final int[] NO_JARS = {-1, 0, 3, 5, 6, -2, 200, 257, 258, 65537, 65538, Integer.MIN_VALUE, Integer.MAX_VALUE};
    private static final Bounds.Calls NO_CALLS = x -> { };
    private static final Bounds.Calls SOME_JARS = x -> {
        Bounds.jars(27, 2 + 3, 1 + 2 * 6, 81, 1 + 243).on(x);
        x.throwAway(0);
        x.throwAway(3);
    };

    private ActBounds() {
    }

    static void test() {
        newObject();
        jarComes();
        jarMix();
        jarNumber();
        jarFullOf12();
        jarFullOf200();
        pourBoth();
        pourFrom();
        pourTo();
        pourCancels();
        pourUnknown();
        pourSame();
        pourEmpty();
        moreBuys();
        moreJar();
        moreMix();
        moreUnknown();
        moreEmpty();
        throwsAway();
        throwJar();
        throwUnits();
        throwUnknown();
        ruled();
        ruleMix();
        ruleStrength();
        ruleFull();
        dropped();
        dropRule();
        dropStrength();
        dropUnknown();
        priceSet();
        priceSpice();
        pricePrice();
        pricePrevious();
        priceErrors();
        priceNone();
        customerComes();
        wantMix();
        wantWaits();
        wantFull();
        served();
        serveCoins();
        serveNobody();
    }

    // ---- Promise 1

    /** Promise 1: "Creates a shop without jars, rules and customers." */
    private static void newObject() {
        Bounds.promise(1, "Creates a shop without jars, rules and customers.");
        SpiceThrees x = new SpiceThrees();
        Bounds.same("a new shop", Bounds.stateTold(x),
            "jars , rules , prices 1 2 3 4 5 6 7 8, waiting , accounts 0 0 0 0 0 0 0 0 0");
        int[] counts = {0, 0, 0, 1, 6561, 0, 0, 0, 0, 0, 0, 0, 0, 0, 0, 0, 0, 0};
        for (int what = 0; what < counts.length; what++) {
            Bounds.due("count(" + what + ")", x.count(what), counts[what]);
        }
        Bounds.due("ranked(0)", x.ranked(0), Bounds.NONE);
        Bounds.due("shelf(0, 0)", x.shelf(0, 0), Bounds.NONE);
        Bounds.due("ruleOf(0)", x.ruleOf(0), Bounds.UNKNOWN);
        Bounds.due("waiting(0)", x.waiting(0), Bounds.NONE);
        Bounds.due("serve()", x.serve(), Bounds.NONE);
        Bounds.due("undo()", x.undo(), Bounds.NONE);
        Bounds.due("restore()", x.restore(), Bounds.NONE);
        Bounds.due("fault()", x.fault(), 0);
        Bounds.due("lost()", x.lost(), 0.0);
        Bounds.due("the first jar", x.jar(1), 0);
        Bounds.due("the first rule", x.rule(1), 1);
        Bounds.due("the first customer", x.want(1), 1);
        Bounds.same("another new shop", Bounds.stateTold(new SpiceThrees()),
            "jars , rules , prices 1 2 3 4 5 6 7 8, waiting , accounts 0 0 0 0 0 0 0 0 0");
    }

    // ---- Promise 2: jar

    /** Promise 2: "A jar comes; its units are bought." */
    private static void jarComes() {
        Bounds.promise(2, "A jar comes; its units are bought.");
        SpiceThrees x = new SpiceThrees();
        x.jar(0);
        Bounds.same("the shop", Bounds.jarsTold(x) + ", " + Bounds.accountsTold(x), "0:0, 0 0 0 0 0 0 0 0 0");
        x.jar(1);
        Bounds.same("the shop", Bounds.jarsTold(x) + ", " + Bounds.accountsTold(x), "0:0 1:1, 1 0 0 0 1 1 0 0 0");
        x.jar(6560);
        Bounds.same("the shop", Bounds.jarsTold(x) + ", " + Bounds.accountsTold(x), "0:0 1:1 2:6560, 17 0 0 0 17 73 0 0 0");
    }

    /** Promise 2: "`mix`: 0 to 6560", "BAD_VALUE" */
    private static void jarMix() {
        Bounds.promise(2, "`mix`: 0 to 6560");
        Bounds.taken(Bounds.END_MIXES, "jar(_)", NO_CALLS, SpiceThrees::jar);
        for (int mix : Bounds.END_MIXES) {
            SpiceThrees x = Bounds.made(Bounds.jars(mix));
            Bounds.due("jarOf(0, 0) after jar(" + mix + ")", x.jarOf(0, 0), mix);
        }
        Bounds.promise(2, "BAD_VALUE");
        Bounds.refusedFor(Bounds.NO_MIXES, Bounds.BAD_VALUE, "jar(_)", NO_CALLS, SpiceThrees::jar);
        Bounds.refusedFor(Bounds.NO_MIXES, Bounds.BAD_VALUE, "jar(_)", SOME_JARS, SpiceThrees::jar);
    }

    /** Promise 2: "Returns its number" */
    private static void jarNumber() {
        Bounds.promise(2, "Returns its number");
        SpiceThrees x = new SpiceThrees();
        Bounds.due("the first jar", x.jar(9), 0);
        Bounds.due("the second jar", x.jar(9), 1);
        x.throwAway(0);
        x.throwAway(1);
        Bounds.due("the third jar", x.jar(9), 2);
        for (int number = 3; number < 200; number++) {
            x.throwAway(number - 1);
            Bounds.due("the next jar", x.jar(number), number);
        }
        Bounds.same("the jars", Bounds.jarsTold(x), "199:199");
    }

    /** Promise 2: "FULL if 12 are there" */
    private static void jarFullOf12() {
        Bounds.promise(2, "FULL if 12 are there");
        Bounds.Calls twelve = Bounds.jars(1, 2, 3, 4, 5, 6, 7, 8, 9, 10, 11, 12);
        Bounds.due("the twelfth jar", Bounds.made(Bounds.jars(1, 2, 3, 4, 5, 6, 7, 8, 9, 10, 11)).jar(12), 11);
        Bounds.refused(Bounds.FULL, "the thirteenth jar", twelve, x -> x.jar(13));
        Bounds.refused(Bounds.FULL, "the thirteenth jar, an empty one", twelve, x -> x.jar(0));
        Bounds.refused(Bounds.BAD_VALUE, "the thirteenth jar, of no mix", twelve, x -> x.jar(6561));
        SpiceThrees x = Bounds.made(twelve);
        x.pour(0, 1);
        Bounds.due("jar(13), where one is empty but there", x.jar(13), Bounds.FULL);
        x.throwAway(0);
        Bounds.due("jar(13), where one left", x.jar(13), 12);
        Bounds.due("jar(13), once more", x.jar(13), Bounds.FULL);
    }

    /** Promise 2: "or 200 came" */
    private static void jarFullOf200() {
        Bounds.promise(2, "or 200 came.");
        Bounds.Calls all = x -> came(x, 200);
        SpiceThrees x = Bounds.made(y -> came(y, 198));
        Bounds.due("the jar with 198 before it", x.jar(1), 198);
        Bounds.due("the jar with 199 before it", x.jar(1), 199);
        Bounds.due("the jar with 200 before it", x.jar(1), Bounds.FULL);
        Bounds.refused(Bounds.FULL, "the jar with 200 before it", all, y -> y.jar(1));
        Bounds.refusedOnce(Bounds.BAD_VALUE, "the jar with 200 before it, of no mix", all, y -> y.jar(-1));
        SpiceThrees z = Bounds.made(all);
        z.throwAway(199);
        Bounds.due("the jar with 200 before it, without jars", z.jar(1), Bounds.FULL);
    }

    /** So many jars came; the last one is there. */
    private static void came(SpiceThrees x, int times) {
        for (int number = 0; number < times; number++) {
            x.jar(3);
            if (number < times - 1) {
                x.throwAway(number);
            }
        }
    }

    // ---- Promise 3: pour

    /** Promise 3: "Pours a jar into another one, which has both mixes together then; the first one is empty." */
    private static void pourBoth() {
        Bounds.promise(3, "Pours a jar into another one, which has both mixes together then; the first one is empty.");
        SpiceThrees x = Bounds.made(Bounds.jars(6560, 0, 6560, 1));
        Bounds.due("pour into an empty jar", x.pour(0, 1), 0);
        Bounds.same("the jars", Bounds.jarsTold(x), "0:0 1:6560 2:6560 3:1");
        Bounds.due("pour of the same mix", x.pour(1, 2), 24);
        Bounds.same("the jars", Bounds.jarsTold(x), "0:0 1:0 2:3280 3:1");
        Bounds.due("pour from a jar behind it", x.pour(3, 2), 0);
        Bounds.same("the jars", Bounds.jarsTold(x), "0:0 1:0 2:3281 3:0");
        Bounds.same("the accounts", Bounds.accountsTold(x), "33 24 0 0 9 145 0 0 0");
        Bounds.due("the empty jars are there still", x.count(0), 4);
    }

    /** Promise 3: "`from`: a jar" */
    private static void pourFrom() {
        Bounds.promise(3, "`from`: a jar");
        Bounds.due("pour(1, 2), from the lowest jar", Bounds.made(SOME_JARS).pour(1, 2), 3);
        Bounds.due("pour(4, 2), from the highest jar", Bounds.made(SOME_JARS).pour(4, 2), 0);
        Bounds.refusedFor(NO_JARS, Bounds.UNKNOWN, "pour(_, 2)", SOME_JARS, (x, jar) -> x.pour(jar, 2));
    }

    /** Promise 3: "`to`: a jar" */
    private static void pourTo() {
        Bounds.promise(3, "`to`: a jar");
        Bounds.due("pour(2, 1), into the lowest jar", Bounds.made(SOME_JARS).pour(2, 1), 3);
        Bounds.due("pour(2, 4), into the highest jar", Bounds.made(SOME_JARS).pour(2, 4), 0);
        Bounds.refusedFor(NO_JARS, Bounds.UNKNOWN, "pour(2, _)", SOME_JARS, (x, jar) -> x.pour(2, jar));
    }

    /** Promise 3: "Returns how many units cancel" */
    private static void pourCancels() {
        Bounds.promise(3, "Returns how many units cancel");
        Bounds.due("pour, none cancels", Bounds.made(Bounds.jars(3280, 3280)).pour(0, 1), 0);
        Bounds.due("pour, one three cancels", Bounds.made(Bounds.jars(3280 + 2187, 3280)).pour(0, 1), 3);
        Bounds.due("pour, seven threes cancel", Bounds.made(Bounds.jars(6558, 6560)).pour(0, 1), 21);
        Bounds.due("pour, eight threes cancel", Bounds.made(Bounds.jars(6560, 6560)).pour(0, 1), 24);
        Bounds.due("pour, all cancel", Bounds.made(Bounds.jars(3280, 6560)).pour(0, 1), 24);
    }

    /** Promise 3: "UNKNOWN (from or to)" */
    private static void pourUnknown() {
        Bounds.promise(3, "UNKNOWN (from or to)");
        Bounds.due("pour(1, 2)", Bounds.made(SOME_JARS).pour(1, 2), 3);
        Bounds.refused(Bounds.UNKNOWN, "pour(3, 1)", SOME_JARS, x -> x.pour(3, 1));
        Bounds.refused(Bounds.UNKNOWN, "pour(1, 3)", SOME_JARS, x -> x.pour(1, 3));
        Bounds.refused(Bounds.UNKNOWN, "pour(0, 5), both unknown", SOME_JARS, x -> x.pour(0, 5));
        Bounds.refused(Bounds.UNKNOWN, "pour(5, 5), both the same and unknown", SOME_JARS, x -> x.pour(5, 5));
        Bounds.refused(Bounds.UNKNOWN, "pour(0, 1), an empty jar into no jar", Bounds.jars(0), x -> x.pour(0, 1));
        Bounds.refused(Bounds.UNKNOWN, "pour(0, 0), no jars", NO_CALLS, x -> x.pour(0, 0));
    }

    /** Promise 3: "BAD_VALUE if both are the same" */
    private static void pourSame() {
        Bounds.promise(3, "BAD_VALUE if both are the same");
        Bounds.refused(Bounds.BAD_VALUE, "pour(2, 2)", SOME_JARS, x -> x.pour(2, 2));
        Bounds.refused(Bounds.BAD_VALUE, "pour(0, 0)", Bounds.jars(5), x -> x.pour(0, 0));
        Bounds.refused(Bounds.BAD_VALUE, "pour(0, 0), an empty jar", Bounds.jars(0), x -> x.pour(0, 0));
        Bounds.due("pour(0, 1), another jar with the same mix", Bounds.made(Bounds.jars(5, 5)).pour(0, 1), 3);
    }

    /** Promise 3: "NONE if the first one is empty." */
    private static void pourEmpty() {
        Bounds.promise(3, "NONE if the first one is empty.");
        Bounds.refused(Bounds.NONE, "pour(0, 1)", Bounds.jars(0, 5), x -> x.pour(0, 1));
        Bounds.refused(Bounds.NONE, "pour(0, 1), both empty", Bounds.jars(0, 0), x -> x.pour(0, 1));
        Bounds.due("pour(1, 0), the second one is empty", Bounds.made(Bounds.jars(0, 5)).pour(1, 0), 0);
        Bounds.due("pour(0, 1), of one unit", Bounds.made(Bounds.jars(1, 5)).pour(0, 1), 3);
        Bounds.Calls poured = x -> {
            Bounds.jars(1, 2, 5).on(x);
            x.pour(0, 1);
        };
        Bounds.refused(Bounds.NONE, "pour(0, 2), poured out", poured, x -> x.pour(0, 2));
        Bounds.refused(Bounds.NONE, "pour(1, 2), where all cancelled", poured, x -> x.pour(1, 2));
        // bland is not empty
        Bounds.Calls bland = x -> {
            Bounds.jars(1, 5).on(x);
            x.rule(1);
        };
        Bounds.due("pour(0, 1), bland", Bounds.made(bland).pour(0, 1), 3);
    }

    // ---- Promise 4: more

    /** Promise 4: "Buys the mix of a jar once more, into the same jar." */
    private static void moreBuys() {
        Bounds.promise(4, "Buys the mix of a jar once more, into the same jar.");
        SpiceThrees x = Bounds.made(Bounds.jars(1, 6560));
        x.more(0);
        Bounds.same("the shop", Bounds.jarsTold(x) + ", " + Bounds.accountsTold(x), "0:2 1:6560, 18 0 0 0 18 74 0 0 0");
        x.more(0);
        Bounds.same("the shop", Bounds.jarsTold(x) + ", " + Bounds.accountsTold(x), "0:1 1:6560, 20 3 0 0 17 76 0 0 0");
        x.more(1);
        Bounds.same("the shop", Bounds.jarsTold(x) + ", " + Bounds.accountsTold(x), "0:1 1:3280, 36 27 0 0 9 148 0 0 0");
        x.price(7, 99);
        x.more(1);
        Bounds.same("the shop", Bounds.jarsTold(x) + ", " + Bounds.accountsTold(x), "0:1 1:6560, 44 27 0 0 17 275 0 0 0");
    }

    /** Promise 4: "`jar`: a jar" */
    private static void moreJar() {
        Bounds.promise(4, "`jar`: a jar");
        Bounds.due("more(1), the lowest jar", Bounds.made(SOME_JARS).more(1), 1 + 6);
        Bounds.due("more(4), the highest jar", Bounds.made(SOME_JARS).more(4), 2 * 244);
        Bounds.refusedFor(NO_JARS, Bounds.UNKNOWN, "more(_)", SOME_JARS, SpiceThrees::more);
    }

    /** Promise 4: "Returns its mix then" */
    private static void moreMix() {
        Bounds.promise(4, "Returns its mix then");
        int[] before = {1, 2, 3280, 6560, 6559, 2187, 4374};
        int[] after = {2, 1, 6560, 3280, 3281, 4374, 2187};
        for (int i = 0; i < before.length; i++) {
            SpiceThrees x = Bounds.made(Bounds.jars(before[i]));
            Bounds.due("more of a jar of " + before[i], x.more(0), after[i]);
            Bounds.due("jarOf(0, 0)", x.jarOf(0, 0), after[i]);
        }
    }

    /** Promise 4: "UNKNOWN" */
    private static void moreUnknown() {
        Bounds.promise(4, "UNKNOWN");
        Bounds.refused(Bounds.UNKNOWN, "more(0), no jars", NO_CALLS, x -> x.more(0));
        Bounds.refused(Bounds.UNKNOWN, "more(1), one jar", Bounds.jars(1), x -> x.more(1));
        Bounds.due("more(0), one jar", Bounds.made(Bounds.jars(1)).more(0), 2);
    }

    /** Promise 4: "NONE if it is empty." */
    private static void moreEmpty() {
        Bounds.promise(4, "NONE if it is empty.");
        Bounds.refused(Bounds.NONE, "more(0)", Bounds.jars(0, 1), x -> x.more(0));
        Bounds.due("more(1), of one unit", Bounds.made(Bounds.jars(0, 1)).more(1), 2);
        Bounds.Calls poured = x -> {
            Bounds.jars(1, 2).on(x);
            x.pour(0, 1);
        };
        Bounds.refused(Bounds.NONE, "more(0), poured out", poured, x -> x.more(0));
        Bounds.refused(Bounds.NONE, "more(1), where all cancelled", poured, x -> x.more(1));
        Bounds.due("more(0), bland but not empty", Bounds.made(x -> {
            x.jar(3);
            x.rule(3);
        }).more(0), 6);
    }

    // ---- Promise 5: throwAway

    /** Promise 5: "Throws a jar away." */
    private static void throwsAway() {
        Bounds.promise(5, "Throws a jar away.");
        for (int number = 0; number < 3; number++) {
            SpiceThrees x = Bounds.made(Bounds.jars(1, 3 + 9, 6560));
            x.throwAway(number);
            Bounds.same("the jars without " + number, Bounds.jarsTold(x),
                new String[] {"1:12 2:6560", "0:1 2:6560", "0:1 1:12"}[number]);
            Bounds.due("jarOf(" + number + ", 0)", x.jarOf(number, 0), Bounds.UNKNOWN);
        }
        Bounds.Calls twelve = Bounds.jars(1, 2, 3, 4, 5, 6, 7, 8, 9, 10, 11, 12);
        SpiceThrees first = Bounds.made(twelve);
        first.throwAway(0);
        Bounds.same("twelve jars without the first", Bounds.jarsTold(first), "1:2 2:3 3:4 4:5 5:6 6:7 7:8 8:9 9:10 10:11 11:12");
        SpiceThrees last = Bounds.made(twelve);
        last.throwAway(11);
        Bounds.same("twelve jars without the last", Bounds.jarsTold(last), "0:1 1:2 2:3 3:4 4:5 5:6 6:7 7:8 8:9 9:10 10:11");
        for (int number = 0; number < 11; number++) {
            last.throwAway(number);
        }
        Bounds.same("without jars", Bounds.jarsTold(last), "");
    }

    /** Promise 5: "`jar`: a jar" */
    private static void throwJar() {
        Bounds.promise(5, "`jar`: a jar");
        Bounds.due("throwAway(1), the lowest jar", Bounds.made(SOME_JARS).throwAway(1), 3);
        Bounds.due("throwAway(4), the highest jar", Bounds.made(SOME_JARS).throwAway(4), 2);
        Bounds.refusedFor(NO_JARS, Bounds.UNKNOWN, "throwAway(_)", SOME_JARS, SpiceThrees::throwAway);
    }

    /** Promise 5: "Returns its units" */
    private static void throwUnits() {
        Bounds.promise(5, "Returns its units");
        int[] mixes = {0, 1, 2, 6559, 6560};
        int[] units = {0, 1, 2, 15, 16};
        SpiceThrees x = Bounds.made(Bounds.jars(mixes));
        int thrown = 0;
        for (int number = 0; number < mixes.length; number++) {
            Bounds.due("throwAway of " + mixes[number], x.throwAway(number), units[number]);
            thrown += units[number];
            Bounds.due("count(10)", x.count(10), thrown);
        }
        Bounds.due("count(11)", x.count(11), 0);
        Bounds.due("count(16)", x.count(16), 4);
    }

    /** Promise 5: "UNKNOWN" */
    private static void throwUnknown() {
        Bounds.promise(5, "UNKNOWN");
        Bounds.refused(Bounds.UNKNOWN, "throwAway(0), no jars", NO_CALLS, x -> x.throwAway(0));
        Bounds.refused(Bounds.UNKNOWN, "throwAway(0), thrown away", x -> {
            Bounds.jars(1, 3).on(x);
            x.throwAway(0);
        }, x -> x.throwAway(0));
        Bounds.refused(Bounds.UNKNOWN, "throwAway(0), sold", x -> {
            Bounds.jars(1, 3).on(x);
            x.want(1);
            x.serve();
        }, x -> x.throwAway(0));
    }

    // ---- Promise 6: rule

    /** Promise 6: "A mix is ruled bland." */
    private static void ruled() {
        Bounds.promise(6, "A mix is ruled bland.");
        for (int mix : new int[] {1, 3280, 6559, 6560}) {
            SpiceThrees x = new SpiceThrees();
            Bounds.due("mixOf(" + mix + ", 3) before", x.mixOf(mix, 3), 0);
            x.rule(mix);
            Bounds.due("mixOf(" + mix + ", 3)", x.mixOf(mix, 3), 1);
            Bounds.due("mixOf(0, 3)", x.mixOf(0, 3), 1);
            Bounds.due("mixOf(" + (mix - 1) + ", 3)", x.mixOf(mix - 1, 3), mix == 1 ? 1 : 0);
            Bounds.same("the rules", Bounds.rulesTold(x), Integer.toString(mix));
        }
    }

    /** Promise 6: "`mix`: 0 to 6560", "BAD_VALUE" */
    private static void ruleMix() {
        Bounds.promise(6, "`mix`: 0 to 6560");
        Bounds.taken(Bounds.END_MIXES, "rule(_)", NO_CALLS, SpiceThrees::rule);
        for (int mix : Bounds.END_MIXES) {
            Bounds.due("ruleOf(0)", Bounds.made(x -> x.rule(mix)).ruleOf(0), mix);
        }
        Bounds.promise(6, "BAD_VALUE");
        Bounds.refusedFor(Bounds.NO_MIXES, Bounds.BAD_VALUE, "rule(_)", NO_CALLS, SpiceThrees::rule);
    }

    /** Promise 6: "Returns the strength of the rules then" */
    private static void ruleStrength() {
        Bounds.promise(6, "Returns the strength of the rules then");
        SpiceThrees x = new SpiceThrees();
        Bounds.due("rule(0)", x.rule(0), 0);
        Bounds.due("rule(5)", x.rule(5), 1);
        Bounds.due("rule(5), once more", x.rule(5), 1);
        Bounds.due("rule(7), the rule taken twice", x.rule(7), 1);
        Bounds.due("rule(1)", x.rule(1), 2);
        Bounds.due("rule(3), of the two together", x.rule(3), 2);
        Bounds.due("rule(6560)", x.rule(6560), 3);
        Bounds.due("rule(6552), all but a and b", x.rule(6552), 3);
        SpiceThrees y = new SpiceThrees();
        int unit = 2187;
        for (int strength = 1; strength <= 8; strength++) {
            Bounds.due("rule(" + unit + ")", y.rule(unit), strength);
            unit /= 3;
        }
    }

    /** Promise 6: "FULL if there are 8." */
    private static void ruleFull() {
        Bounds.promise(6, "FULL if there are 8.");
        Bounds.Calls eight = x -> rules(x, 8);
        Bounds.due("the eighth rule", Bounds.made(x -> rules(x, 7)).rule(8), 2);
        Bounds.refused(Bounds.FULL, "the ninth rule", eight, x -> x.rule(27));
        Bounds.refused(Bounds.FULL, "the ninth rule, the empty mix", eight, x -> x.rule(0));
        Bounds.refused(Bounds.FULL, "the ninth rule, one that is there", eight, x -> x.rule(1));
        Bounds.refused(Bounds.BAD_VALUE, "the ninth rule, no mix", eight, x -> x.rule(6561));
        SpiceThrees x = Bounds.made(eight);
        x.drop(0);
        Bounds.due("a rule where one left", x.rule(27), 3);
        Bounds.due("another one", x.rule(27), Bounds.FULL);
    }

    /** The rules 1 and on, which are as strong as a and b for themselves. */
    private static void rules(SpiceThrees x, int size) {
        for (int mix = 1; mix <= size; mix++) {
            x.rule(mix);
        }
    }

    // ---- Promise 7: drop

    /** Promise 7: "Drops a rule." */
    private static void dropped() {
        Bounds.promise(7, "Drops a rule.");
        String[] left = {"2 3 4 5 6 7 8", "1 3 4 5 6 7 8", "1 2 4 5 6 7 8", "1 2 3 5 6 7 8", "1 2 3 4 6 7 8", "1 2 3 4 5 7 8",
            "1 2 3 4 5 6 8", "1 2 3 4 5 6 7"};
        for (int rule = 0; rule < 8; rule++) {
            SpiceThrees x = Bounds.made(y -> rules(y, 8));
            x.drop(rule);
            Bounds.same("the rules without " + rule, Bounds.rulesTold(x), left[rule]);
            Bounds.due("count(1)", x.count(1), 7);
        }
        SpiceThrees x = Bounds.made(y -> y.rule(6560));
        x.drop(0);
        Bounds.due("mixOf(6560, 3), not bland any more", x.mixOf(6560, 3), 0);
        Bounds.due("mixOf(0, 3), bland still", x.mixOf(0, 3), 1);
    }

    /** Promise 7: "`rule`: a rule" */
    private static void dropRule() {
        Bounds.promise(7, "`rule`: a rule");
        Bounds.taken(new int[] {0, 1, 6, 7}, "drop(_) of eight", x -> rules(x, 8), SpiceThrees::drop);
        Bounds.refusedFor(new int[] {-1, 8, 9, -2, 256, 65536, Integer.MIN_VALUE, Integer.MAX_VALUE}, Bounds.UNKNOWN,
            "drop(_) of eight", x -> rules(x, 8), SpiceThrees::drop);
        Bounds.taken(new int[] {0, 1, 2}, "drop(_) of three", x -> rules(x, 3), SpiceThrees::drop);
        Bounds.refusedFor(new int[] {-1, 3, 4, 7}, Bounds.UNKNOWN, "drop(_) of three", x -> rules(x, 3), SpiceThrees::drop);
    }

    /** Promise 7: "Returns the strength of the rules then" */
    private static void dropStrength() {
        Bounds.promise(7, "Returns the strength of the rules then");
        Bounds.due("drop of the only rule", Bounds.made(x -> x.rule(5)).drop(0), 0);
        Bounds.due("drop of an empty rule", Bounds.made(x -> {
            x.rule(5);
            x.rule(0);
        }).drop(1), 1);
        SpiceThrees x = new SpiceThrees();
        x.rule(1);
        x.rule(3);
        x.rule(4);
        Bounds.due("drop of one that follows from the others", x.drop(0), 2);
        Bounds.due("drop of one that does not", x.drop(0), 1);
        Bounds.due("drop of the last one", x.drop(0), 0);
        SpiceThrees y = new SpiceThrees();
        for (int unit = 1; unit < 6561; unit *= 3) {
            y.rule(unit);
        }
        for (int strength = 7; strength >= 0; strength--) {
            Bounds.due("drop(" + strength / 2 + ")", y.drop(strength / 2), strength);
            Bounds.due("count(2)", y.count(2), strength);
        }
    }

    /** Promise 7: "UNKNOWN" */
    private static void dropUnknown() {
        Bounds.promise(7, "UNKNOWN");
        Bounds.refused(Bounds.UNKNOWN, "drop(0), no rules", NO_CALLS, x -> x.drop(0));
        Bounds.refused(Bounds.UNKNOWN, "drop(1), one rule", x -> x.rule(5), x -> x.drop(1));
        Bounds.refused(Bounds.UNKNOWN, "drop(1), where a rule was", x -> {
            rules(x, 2);
            x.drop(0);
        }, x -> x.drop(1));
    }

    // ---- Promise 8: price

    /** Promise 8: "Sets the price of a spice." */
    private static void priceSet() {
        Bounds.promise(8, "Sets the price of a spice.");
        SpiceThrees x = Bounds.made(Bounds.jars(6560));
        x.price(0, 99);
        Bounds.same("the prices", Bounds.pricesTold(x), "99 2 3 4 5 6 7 8");
        x.price(7, 0);
        Bounds.same("the prices", Bounds.pricesTold(x), "99 2 3 4 5 6 7 0");
        x.price(6, 98);
        Bounds.same("the prices", Bounds.pricesTold(x), "99 2 3 4 5 6 98 0");
        x.price(1, 1);
        Bounds.same("the prices", Bounds.pricesTold(x), "99 1 3 4 5 6 98 0");
        Bounds.due("count(12), which was paid before", x.count(12), 72);
        Bounds.due("jarOf(0, 2)", x.jarOf(0, 2), 2 * (99 + 1 + 3 + 4 + 5 + 6 + 98));
    }

    /** Promise 8: "`spice`: 0 to 7" */
    private static void priceSpice() {
        Bounds.promise(8, "`spice`: 0 to 7");
        Bounds.taken(new int[] {0, 1, 6, 7}, "price(_, 50)", NO_CALLS, (x, spice) -> x.price(spice, 50));
        Bounds.refusedFor(new int[] {-1, 8, 9, 256, 65536, Integer.MIN_VALUE, Integer.MAX_VALUE}, Bounds.UNKNOWN, "price(_, 50)",
            NO_CALLS, (x, spice) -> x.price(spice, 50));
    }

    /** Promise 8: "`price`: 0 to 99" */
    private static void pricePrice() {
        Bounds.promise(8, "`price`: 0 to 99");
        Bounds.taken(new int[] {0, 1, 98, 99}, "price(7, _)", NO_CALLS, (x, price) -> x.price(7, price));
        Bounds.taken(new int[] {0, 2, 98, 99}, "price(0, _)", NO_CALLS, (x, price) -> x.price(0, price));
        int[] outside = {-1, 100, -2, 101, 256, 65536, Integer.MIN_VALUE, Integer.MAX_VALUE};
        Bounds.refusedFor(outside, Bounds.BAD_VALUE, "price(0, _)", NO_CALLS, (x, price) -> x.price(0, price));
        Bounds.refusedFor(outside, Bounds.BAD_VALUE, "price(7, _)", NO_CALLS, (x, price) -> x.price(7, price));
    }

    /** Promise 8: "Returns the previous one" */
    private static void pricePrevious() {
        Bounds.promise(8, "Returns the previous one");
        for (int spice = 0; spice < 8; spice++) {
            SpiceThrees x = new SpiceThrees();
            Bounds.due("price(" + spice + ", 0)", x.price(spice, 0), spice + 1);
            Bounds.due("price(" + spice + ", 99)", x.price(spice, 99), 0);
            Bounds.due("price(" + spice + ", 98)", x.price(spice, 98), 99);
            Bounds.due("price(" + spice + ", 100)", x.price(spice, 100), Bounds.BAD_VALUE);
            Bounds.due("price(" + spice + ", 0)", x.price(spice, 0), 98);
        }
    }

    /** Promise 8: "UNKNOWN; BAD_VALUE" */
    private static void priceErrors() {
        Bounds.promise(8, "UNKNOWN; BAD_VALUE");
        Bounds.refused(Bounds.UNKNOWN, "price(8, 100)", NO_CALLS, x -> x.price(8, 100));
        Bounds.refused(Bounds.UNKNOWN, "price(-1, -1)", NO_CALLS, x -> x.price(-1, -1));
        Bounds.refused(Bounds.BAD_VALUE, "price(7, 100)", NO_CALLS, x -> x.price(7, 100));
        Bounds.due("price(7, 99)", new SpiceThrees().price(7, 99), 8);
    }

    /** Promise 8: "NONE if it is so already." */
    private static void priceNone() {
        Bounds.promise(8, "NONE if it is so already.");
        for (int spice = 0; spice < 8; spice++) {
            int same = spice + 1;
            int one = spice;
            Bounds.refused(Bounds.NONE, "price(" + spice + ", " + same + ")", NO_CALLS, x -> x.price(one, same));
            Bounds.due("price, one less", new SpiceThrees().price(spice, same - 1), same);
            Bounds.due("price, one more", new SpiceThrees().price(spice, same + 1), same);
        }
        Bounds.refused(Bounds.NONE, "price(3, 0), set before", x -> x.price(3, 0), x -> x.price(3, 0));
        Bounds.refused(Bounds.NONE, "price(3, 99), set before", x -> x.price(3, 99), x -> x.price(3, 99));
        Bounds.due("price(3, 4), as it was at first", Bounds.made(x -> x.price(3, 99)).price(3, 4), 99);
    }

    // ---- Promise 9: want

    /** Promise 9: "A customer comes." */
    private static void customerComes() {
        Bounds.promise(9, "A customer comes.");
        SpiceThrees x = new SpiceThrees();
        x.want(6560);
        Bounds.same("the customers", Bounds.waitingTold(x), "6560");
        x.want(0);
        Bounds.same("the customers", Bounds.waitingTold(x), "6560 0");
        x.want(6560);
        Bounds.same("the customers", Bounds.waitingTold(x), "6560 0 6560");
        Bounds.due("count(6)", x.count(6), 3);
    }

    /** Promise 9: "`mix`: 0 to 6560: a mix of the taste", "BAD_VALUE" */
    private static void wantMix() {
        Bounds.promise(9, "`mix`: 0 to 6560: a mix of the taste");
        Bounds.taken(Bounds.END_MIXES, "want(_)", NO_CALLS, SpiceThrees::want);
        for (int mix : Bounds.END_MIXES) {
            Bounds.due("waiting(0)", Bounds.made(x -> x.want(mix)).waiting(0), mix);
        }
        Bounds.promise(9, "BAD_VALUE");
        Bounds.refusedFor(Bounds.NO_MIXES, Bounds.BAD_VALUE, "want(_)", NO_CALLS, SpiceThrees::want);
    }

    /** Promise 9: "Returns how many wait then" */
    private static void wantWaits() {
        Bounds.promise(9, "Returns how many wait then");
        SpiceThrees x = new SpiceThrees();
        Bounds.due("the first", x.want(5), 1);
        Bounds.due("one that can't come", x.want(6561), Bounds.BAD_VALUE);
        Bounds.due("the second", x.want(5), 2);
        x.serve();
        Bounds.due("the third, as one went", x.want(5), 2);
        for (int waits = 3; waits <= 8; waits++) {
            Bounds.due("one more", x.want(waits), waits);
        }
    }

    /** Promise 9: "FULL if 8 wait." */
    private static void wantFull() {
        Bounds.promise(9, "FULL if 8 wait.");
        Bounds.Calls eight = x -> wants(x, 8);
        Bounds.due("the eighth", Bounds.made(x -> wants(x, 7)).want(5), 8);
        Bounds.refused(Bounds.FULL, "the ninth", eight, x -> x.want(5));
        Bounds.refused(Bounds.FULL, "the ninth, for what is bland", eight, x -> x.want(0));
        Bounds.refused(Bounds.BAD_VALUE, "the ninth, for no mix", eight, x -> x.want(6561));
        SpiceThrees x = Bounds.made(eight);
        x.serve();
        Bounds.due("one where one went", x.want(5), 8);
        Bounds.due("another one", x.want(5), Bounds.FULL);
    }

    private static void wants(SpiceThrees x, int size) {
        for (int mix = 1; mix <= size; mix++) {
            x.want(mix);
        }
    }

    // ---- Promise 10: serve

    /** Promise 10: "Serves the first customer, who goes then; or lets it go, if no jar tastes so." */
    private static void served() {
        Bounds.promise(10, "Serves the first customer, who goes then; or lets it go, if no jar tastes so.");
        SpiceThrees x = Bounds.made(Bounds.jars(1, 3));
        x.want(3);
        x.want(9);
        x.want(1);
        Bounds.due("serve()", x.serve(), 3);
        Bounds.same("the shop", Bounds.jarsTold(x) + ", " + Bounds.waitingTold(x), "0:1, 9 1");
        Bounds.due("serve(), no jar tastes so", x.serve(), 0);
        Bounds.same("the shop", Bounds.jarsTold(x) + ", " + Bounds.waitingTold(x), "0:1, 1");
        Bounds.due("count(15)", x.count(15), 1);
        Bounds.due("serve()", x.serve(), 1);
        Bounds.same("the shop", Bounds.jarsTold(x) + ", " + Bounds.waitingTold(x), ", ");
        Bounds.due("count(14)", x.count(14), 2);
        x.want(0);
        Bounds.due("serve() without jars", x.serve(), 0);
        Bounds.due("count(15)", x.count(15), 2);
        SpiceThrees y = Bounds.made(z -> wants(z, 8));
        y.serve();
        Bounds.same("eight customers without the first", Bounds.waitingTold(y), "2 3 4 5 6 7 8");
        lastOfTwelve();
    }

    private static void lastOfTwelve() {
        SpiceThrees x = Bounds.made(Bounds.jars(1, 2, 3, 4, 5, 6, 7, 8, 9, 10, 11, 6560));
        x.want(6560);
        Bounds.due("serve() with the last of twelve", x.serve(), 108);
        Bounds.same("the jars", Bounds.jarsTold(x), "0:1 1:2 2:3 3:4 4:5 5:6 6:7 7:8 8:9 9:10 10:11");
        x.want(1);
        Bounds.due("serve() with the first of eleven", x.serve(), 1);
        Bounds.same("the jars", Bounds.jarsTold(x), "1:2 2:3 3:4 4:5 5:6 6:7 7:8 8:9 9:10 10:11");
    }

    /** Promise 10: "Returns the coins that are taken, 0 if none tastes so" */
    private static void serveCoins() {
        Bounds.promise(10, "Returns the coins that are taken, 0 if none tastes so");
        int[] mixes = {1, 2, 3, 6560, 6559};
        int[] coins = {1, 3, 3, 108, 106};
        for (int i = 0; i < mixes.length; i++) {
            SpiceThrees x = Bounds.made(Bounds.jars(mixes[i]));
            x.want(mixes[i]);
            Bounds.due("serve() of " + mixes[i], x.serve(), coins[i]);
            Bounds.due("count(13)", x.count(13), coins[i]);
            x.want(mixes[i]);
            Bounds.due("serve() without jars", x.serve(), 0);
            Bounds.due("count(13)", x.count(13), coins[i]);
        }
        SpiceThrees free = Bounds.made(Bounds.jars(0));
        free.want(0);
        Bounds.due("serve() of an empty jar", free.serve(), 0);
        Bounds.same("the accounts: it was served", Bounds.accountsTold(free), "0 0 0 0 0 0 0 1 0");
        Bounds.due("count(16), it was an act", free.count(16), 3);
    }

    /** Promise 10: "NONE if nobody waits." */
    private static void serveNobody() {
        Bounds.promise(10, "NONE if nobody waits.");
        Bounds.refused(Bounds.NONE, "serve(), no jars", NO_CALLS, SpiceThrees::serve);
        Bounds.refused(Bounds.NONE, "serve(), some jars", SOME_JARS, SpiceThrees::serve);
        Bounds.refused(Bounds.NONE, "serve(), the last one went", x -> {
            Bounds.jars(1, 3).on(x);
            x.want(1);
            x.serve();
        }, SpiceThrees::serve);
        Bounds.due("serve(), one waits", Bounds.made(x -> {
            x.jar(1);
            x.want(1);
        }).serve(), 1);
    }
}

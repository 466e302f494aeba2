/** The sentences of the promises 18 to 31: what is told, and what would be. */
final class ToldBounds {
    private static final int[] FAR_BELOW = {-1, -2, -65536, Integer.MIN_VALUE};
    private static final Bounds.Calls NO_CALLS = x -> { };
    private static final Bounds.Calls SOME_JARS = x -> {
        Bounds.jars(27, 5, 13, 81, 244).on(x);
        x.throwAway(0);
        x.throwAway(3);
    };
    private static final Bounds.Calls TWELVE = Bounds.jars(1, 2, 3, 4, 5, 6, 7, 8, 9, 10, 11, 12);
    /** No jar of SOME_JARS. */
    private static final int[] NO_JARS = {-1, 0, 3, 5, 6, -2, 200, 257, 258, 65537, 65538, Integer.MIN_VALUE, Integer.MAX_VALUE};

    private ToldBounds() {
    }

    static void test() {
        jarOfJar();
        jarOfWhat();
        jarOfNumbers();
        jarOfErrors();
        rankedTells();
        rankedByNumbers();
        rankedNumber();
        rankedNegative();
        rankedNone();
        ruleOfRule();
        ruleOfMix();
        ruleOfUnknown();
        mixOfMix();
        mixOfWhat();
        mixOfNumbers();
        mixOfErrors();
        togetherTells();
        togetherMixes();
        alikeTwoWays();
        alikeMixes();
        alikeAnswers();
        shelfTells();
        shelfRank();
        shelfWhat();
        shelfErrors();
        shelfNone();
        waitingRank();
        waitingMix();
        waitingErrors();
        countWhat();
        countNumbers();
        lostShare();
        lostNothing();
    }

    // ---- Promise 18: jarOf

    /** Promise 18: "`jar`: a jar", "UNKNOWN" */
    private static void jarOfJar() {
        Bounds.promise(18, "`jar`: a jar");
        Bounds.due("jarOf(1, 0), the lowest jar", Bounds.made(SOME_JARS).jarOf(1, 0), 5);
        Bounds.due("jarOf(2, 0), the jar between", Bounds.made(SOME_JARS).jarOf(2, 0), 13);
        Bounds.due("jarOf(4, 0), the highest jar", Bounds.made(SOME_JARS).jarOf(4, 0), 244);
        Bounds.promise(18, "UNKNOWN");
        for (int what = 0; what <= 6; what++) {
            int of = what;
            Bounds.refusedFor(NO_JARS, Bounds.UNKNOWN, "jarOf(_, " + what + ")", SOME_JARS, (x, jar) -> x.jarOf(jar, of));
        }
        Bounds.due("jarOf(0, 0) without jars", new SpiceThrees().jarOf(0, 0), Bounds.UNKNOWN);
        SpiceThrees x = Bounds.made(TWELVE);
        Bounds.due("jarOf(11, 0) of twelve", x.jarOf(11, 0), 12);
        Bounds.due("jarOf(12, 0) of twelve", x.jarOf(12, 0), Bounds.UNKNOWN);
    }

    /** Promise 18: "`what`: 0 for its mix, 1 for its units, ..., 6 for the price of that", "BAD_VALUE" */
    private static void jarOfWhat() {
        Bounds.promise(18, "`what`: 0 for its mix, 1 for its units, 2 for its price, 3 for its taste, 4 for whether it is bland (1, otherwise 0), "
            + "5 for the cheapest mix of its taste, 6 for the price of that");
        Bounds.taken(new int[] {0, 1, 5, 6}, "jarOf(2, _)", SOME_JARS, (x, what) -> x.jarOf(2, what));
        Bounds.promise(18, "BAD_VALUE");
        int[] outside = {-1, 7, -2, 8, 256, 65536, Integer.MIN_VALUE, Integer.MAX_VALUE};
        Bounds.refusedFor(outside, Bounds.BAD_VALUE, "jarOf(2, _)", SOME_JARS, (x, what) -> x.jarOf(2, what));
    }

    private static void jarTold(SpiceThrees x, int jar, int... due) {
        for (int what = 0; what < due.length; what++) {
            Bounds.due("jarOf(" + jar + ", " + what + ")", x.jarOf(jar, what), due[what]);
        }
    }

    /** Promise 18: "Returns the number" */
    private static void jarOfNumbers() {
        Bounds.promise(18, "Returns the number");
        SpiceThrees x = Bounds.made(Bounds.jars(0, 1, 6560, 2187));
        jarTold(x, 0, 0, 0, 0, 0, 1, 0, 0);
        jarTold(x, 1, 1, 1, 1, 1, 0, 1, 1);
        jarTold(x, 2, 6560, 16, 72, 6560, 0, 6560, 72);
        jarTold(x, 3, 2187, 1, 8, 2187, 0, 2187, 8);
        x.rule(2187 + 2);
        jarTold(x, 0, 0, 0, 0, 0, 1, 0, 0);
        jarTold(x, 1, 1, 1, 1, 1, 0, 1, 1);
        jarTold(x, 2, 6560, 16, 72, 2184 + 1, 0, 2184 + 1, 55);
        jarTold(x, 3, 2187, 1, 8, 1, 0, 1, 1);
        x.price(7, 0);
        jarTold(x, 1, 1, 1, 1, 1, 0, 2187, 0);
        jarTold(x, 3, 2187, 1, 0, 1, 0, 2187, 0);
        x.price(0, 0);
        jarTold(x, 1, 1, 1, 0, 1, 0, 1, 0);
        jarTold(x, 3, 2187, 1, 0, 1, 0, 1, 0);
        x.rule(1);
        jarTold(x, 1, 1, 1, 0, 0, 1, 0, 0);
        jarTold(x, 3, 2187, 1, 0, 0, 1, 0, 0);
        for (int unit = 3; unit < 2187; unit *= 3) {
            x.rule(unit);
        }
        Bounds.due("count(2)", x.count(2), 8);
        jarTold(x, 2, 6560, 16, 2 * (2 + 3 + 4 + 5 + 6 + 7), 0, 1, 0, 0);
    }

    /** Promise 18: "UNKNOWN; BAD_VALUE." */
    private static void jarOfErrors() {
        Bounds.promise(18, "UNKNOWN; BAD_VALUE.");
        Bounds.refused(Bounds.UNKNOWN, "jarOf(3, 7)", SOME_JARS, x -> x.jarOf(3, 7));
        Bounds.refused(Bounds.UNKNOWN, "jarOf(-1, -1)", NO_CALLS, x -> x.jarOf(-1, -1));
        Bounds.refused(Bounds.BAD_VALUE, "jarOf(4, 7)", SOME_JARS, x -> x.jarOf(4, 7));
    }

    // ---- Promise 19: ranked

    /** Promise 19: "Tells a jar by its rank." */
    private static void rankedTells() {
        Bounds.promise(19, "Tells a jar by its rank.");
        SpiceThrees x = Bounds.made(Bounds.jars(5));
        Bounds.due("ranked(0) of one jar", x.ranked(0), 0);
        Bounds.due("ranked(1) of one jar", x.ranked(1), Bounds.NONE);
        x.jar(1);
        Bounds.due("ranked(1) of two jars", x.ranked(1), 1);
        x.throwAway(0);
        Bounds.due("ranked(0) of the second jar", x.ranked(0), 1);
        Bounds.due("ranked(1)", x.ranked(1), Bounds.NONE);
    }

    /** Promise 19: "`rank`: from 0, by numbers" */
    private static void rankedByNumbers() {
        Bounds.promise(19, "`rank`: from 0, by numbers");
        SpiceThrees x = Bounds.made(TWELVE);
        for (int gone : new int[] {0, 5, 6, 11}) {
            x.throwAway(gone);
        }
        x.jar(1);
        x.jar(0);
        int[] numbers = {1, 2, 3, 4, 7, 8, 9, 10, 12, 13};
        for (int rank = 0; rank < numbers.length; rank++) {
            Bounds.due("ranked(" + rank + ")", x.ranked(rank), numbers[rank]);
        }
        Bounds.due("ranked(10)", x.ranked(10), Bounds.NONE);
    }

    /** Promise 19: "Returns its number" */
    private static void rankedNumber() {
        Bounds.promise(19, "Returns its number");
        SpiceThrees x = Bounds.made(TWELVE);
        for (int rank : new int[] {0, 1, 10, 11}) {
            Bounds.due("ranked(" + rank + ")", x.ranked(rank), rank);
        }
        Bounds.due("ranked(12)", x.ranked(12), Bounds.NONE);
    }

    /** Promise 19: "BAD_VALUE if rank is negative" */
    private static void rankedNegative() {
        Bounds.promise(19, "BAD_VALUE if rank is negative");
        Bounds.refusedFor(FAR_BELOW, Bounds.BAD_VALUE, "ranked(_)", NO_CALLS, SpiceThrees::ranked);
        Bounds.refusedFor(FAR_BELOW, Bounds.BAD_VALUE, "ranked(_)", SOME_JARS, SpiceThrees::ranked);
        Bounds.due("ranked(0)", Bounds.made(SOME_JARS).ranked(0), 1);
    }

    /** Promise 19: "NONE if there are not so many." */
    private static void rankedNone() {
        Bounds.promise(19, "NONE if there are not so many.");
        Bounds.refusedFor(new int[] {0, 1, 12, Integer.MAX_VALUE}, Bounds.NONE, "ranked(_)", NO_CALLS, SpiceThrees::ranked);
        Bounds.refusedFor(new int[] {3, 4, 12, 65536, Integer.MAX_VALUE}, Bounds.NONE, "ranked(_)", SOME_JARS, SpiceThrees::ranked);
        Bounds.refusedFor(new int[] {12, 13}, Bounds.NONE, "ranked(_)", TWELVE, SpiceThrees::ranked);
        Bounds.due("ranked(2)", Bounds.made(SOME_JARS).ranked(2), 4);
    }

    // ---- Promise 20: ruleOf

    private static final Bounds.Calls EIGHT_RULES = x -> {
        for (int rule : new int[] {6560, 0, 1, 6559, 0, 5, 5, 2187}) {
            x.rule(rule);
        }
    };

    /** Promise 20: "`rule`: a rule" */
    private static void ruleOfRule() {
        Bounds.promise(20, "`rule`: a rule");
        Bounds.taken(new int[] {0, 1, 6, 7}, "ruleOf(_)", EIGHT_RULES, SpiceThrees::ruleOf);
        Bounds.refusedFor(new int[] {-1, 8, 9, 256, 65536, Integer.MIN_VALUE, Integer.MAX_VALUE}, Bounds.UNKNOWN, "ruleOf(_)",
            EIGHT_RULES, SpiceThrees::ruleOf);
    }

    /** Promise 20: "Returns its mix" */
    private static void ruleOfMix() {
        Bounds.promise(20, "Returns its mix");
        SpiceThrees x = Bounds.made(EIGHT_RULES);
        Bounds.same("the rules as they were told", Bounds.rulesTold(x), "6560 0 1 6559 0 5 5 2187");
        x.drop(0);
        Bounds.same("the rules", Bounds.rulesTold(x), "0 1 6559 0 5 5 2187");
    }

    /** Promise 20: "UNKNOWN." */
    private static void ruleOfUnknown() {
        Bounds.promise(20, "UNKNOWN.");
        Bounds.refused(Bounds.UNKNOWN, "ruleOf(0), no rules", NO_CALLS, x -> x.ruleOf(0));
        Bounds.refused(Bounds.UNKNOWN, "ruleOf(1), one rule", x -> x.rule(5), x -> x.ruleOf(1));
        Bounds.due("ruleOf(0), one rule", Bounds.made(x -> x.rule(5)).ruleOf(0), 5);
        SpiceThrees x = Bounds.made(EIGHT_RULES);
        x.drop(3);
        Bounds.due("ruleOf(7), where one was dropped", x.ruleOf(7), Bounds.UNKNOWN);
        Bounds.due("ruleOf(6)", x.ruleOf(6), 2187);
    }

    // ---- Promise 21: mixOf

    /** Promise 21: "`mix`: 0 to 6560" */
    private static void mixOfMix() {
        Bounds.promise(21, "`mix`: 0 to 6560");
        for (int what = 0; what <= 6; what++) {
            int of = what;
            Bounds.taken(Bounds.END_MIXES, "mixOf(_, " + what + ")", SOME_JARS, (x, mix) -> x.mixOf(mix, of));
            Bounds.refusedFor(Bounds.NO_MIXES, Bounds.BAD_VALUE, "mixOf(_, " + what + ")", SOME_JARS, (x, mix) -> x.mixOf(mix, of));
        }
    }

    /** Promise 21: "`what`: 0 for its units, ..., 6 for how many jars taste so" */
    private static void mixOfWhat() {
        Bounds.promise(21, "`what`: 0 for its units, 1 for its price, 2 for its taste, 3 for whether it is bland (1, otherwise 0), "
            + "4 for the cheapest mix of its taste, 5 for the mix that cancels it (with which it is empty), 6 for how many jars taste so");
        Bounds.taken(new int[] {0, 1, 5, 6}, "mixOf(5, _)", SOME_JARS, (x, what) -> x.mixOf(5, what));
        int[] outside = {-1, 7, -2, 8, 256, 65536, Integer.MIN_VALUE, Integer.MAX_VALUE};
        Bounds.refusedFor(outside, Bounds.BAD_VALUE, "mixOf(5, _)", SOME_JARS, (x, what) -> x.mixOf(5, what));
    }

    private static void mixTold(SpiceThrees x, int mix, int... due) {
        for (int what = 0; what < due.length; what++) {
            Bounds.due("mixOf(" + mix + ", " + what + ")", x.mixOf(mix, what), due[what]);
        }
        Bounds.due("together(" + mix + ", the mix that cancels it)", x.together(mix, due[5]), 0);
    }

    /** Promise 21: "Returns the number" */
    private static void mixOfNumbers() {
        Bounds.promise(21, "Tells about a mix.");
        Bounds.promise(21, "Returns the number");
        SpiceThrees x = new SpiceThrees();
        mixTold(x, 0, 0, 0, 0, 1, 0, 0, 0);
        mixTold(x, 1, 1, 1, 1, 0, 1, 2, 0);
        mixTold(x, 2, 2, 2, 2, 0, 2, 1, 0);
        mixTold(x, 6559, 15, 71, 6559, 0, 6559, 3281, 0);
        mixTold(x, 6560, 16, 72, 6560, 0, 6560, 3280, 0);
        mixTold(x, 2187, 1, 8, 2187, 0, 2187, 4374, 0);
        for (int jar = 1; jar <= 12; jar++) {
            x.jar(jar % 2 == 0 ? 6560 : 0);
            Bounds.due("mixOf(6560, 6)", x.mixOf(6560, 6), jar / 2);
            Bounds.due("mixOf(0, 6)", x.mixOf(0, 6), (jar + 1) / 2);
            Bounds.due("mixOf(3280, 6)", x.mixOf(3280, 6), 0);
        }
        x.rule(3280);
        mixTold(x, 6560, 16, 72, 0, 1, 0, 3280, 12);
        mixTold(x, 3280, 8, 36, 0, 1, 0, 6560, 12);
        mixTold(x, 6559, 15, 71, 2, 0, 2, 3281, 0);
        mixTold(x, 0, 0, 0, 0, 1, 0, 0, 12);
        x.throwAway(4);
        Bounds.due("mixOf(6560, 6)", x.mixOf(6560, 6), 11);
    }

    /** Promise 21: "BAD_VALUE (mix or what)." */
    private static void mixOfErrors() {
        Bounds.promise(21, "BAD_VALUE (mix or what).");
        Bounds.refused(Bounds.BAD_VALUE, "mixOf(6561, 7)", NO_CALLS, x -> x.mixOf(6561, 7));
        Bounds.refused(Bounds.BAD_VALUE, "mixOf(6561, 6)", NO_CALLS, x -> x.mixOf(6561, 6));
        Bounds.refused(Bounds.BAD_VALUE, "mixOf(6560, 7)", NO_CALLS, x -> x.mixOf(6560, 7));
        Bounds.due("mixOf(6560, 6)", new SpiceThrees().mixOf(6560, 6), 0);
    }

    // ---- Promise 22: together

    /** Promise 22: "Tells the mix that two mixes are together." */
    private static void togetherTells() {
        Bounds.promise(22, "Tells the mix that two mixes are together.");
        for (int one : Bounds.END_MIXES) {
            SpiceThrees x = new SpiceThrees();
            for (int other = 0; other < 6561; other += other < 100 || other > 6500 ? 1 : 41) {
                int due = 0;
                for (int unit = 1; unit < 6561; unit *= 3) {
                    due += (one / unit % 3 + other / unit % 3) % 3 * unit;
                }
                Bounds.due("together(" + one + ", " + other + ")", x.together(one, other), due);
            }
            // rules say nothing of it
            x.rule(6560);
            Bounds.due("together(" + one + ", 6560)", x.together(one, 6560), one == 0 ? 6560 : one == 1 ? 6558 : one == 6559 ? 3279 : 3280);
        }
    }

    /** Promise 22: "`one`: 0 to 6560", "`other`: 0 to 6560", "Returns the mix; BAD_VALUE." */
    private static void togetherMixes() {
        Bounds.promise(22, "`one`: 0 to 6560");
        Bounds.taken(Bounds.END_MIXES, "together(_, 5)", NO_CALLS, (x, one) -> x.together(one, 5));
        Bounds.refusedFor(Bounds.NO_MIXES, Bounds.BAD_VALUE, "together(_, 5)", NO_CALLS, (x, one) -> x.together(one, 5));
        Bounds.promise(22, "`other`: 0 to 6560");
        Bounds.taken(Bounds.END_MIXES, "together(5, _)", NO_CALLS, (x, other) -> x.together(5, other));
        Bounds.refusedFor(Bounds.NO_MIXES, Bounds.BAD_VALUE, "together(5, _)", NO_CALLS, (x, other) -> x.together(5, other));
        Bounds.promise(22, "Returns the mix; BAD_VALUE.");
        Bounds.refused(Bounds.BAD_VALUE, "together(6561, -1)", NO_CALLS, x -> x.together(6561, -1));
        Bounds.refused(Bounds.BAD_VALUE, "together(-1, 6561)", NO_CALLS, x -> x.together(-1, 6561));
        Bounds.due("together(6560, 6560)", new SpiceThrees().together(6560, 6560), 3280);
    }

    // ---- Promise 23: alike

    /** Promise 23: "Tells whether two mixes taste alike, in one of two ways: by their tastes, or by going through all bland mixes." */
    private static void alikeTwoWays() {
        Bounds.promise(23, "Tells whether two mixes taste alike, in one of two ways: by their tastes, or by going through all bland mixes.");
        Bounds.promise(23, "`all`: whether it goes through all bland mixes");
        int[][] rules = {{}, {0}, {1}, {2187}, {6560}, {6560, 6559}, {5, 7}, {1, 3, 9, 27, 81, 243, 729}, {3, 9, 27, 81, 243, 729, 2187},
            {4, 12, 36, 108, 324, 972, 2916, 1}};
        for (int[] some : rules) {
            SpiceThrees x = new SpiceThrees();
            for (int rule : some) {
                x.rule(rule);
            }
            for (int one : Bounds.END_MIXES) {
                for (int other : new int[] {0, 1, 2, 3, 5, 2187, 3279, 3280, 4374, 6558, 6559, 6560}) {
                    int due = x.mixOf(one, 2) == x.mixOf(other, 2) ? 1 : 0;
                    Bounds.due("alike(" + one + ", " + other + ", true)", x.alike(one, other, true), due);
                    Bounds.due("alike(" + other + ", " + one + ", true)", x.alike(other, one, true), due);
                    Bounds.due("alike(" + one + ", " + other + ", false)", x.alike(one, other, false), due);
                    Bounds.due("alike(" + other + ", " + one + ", false)", x.alike(other, one, false), due);
                }
            }
        }
    }

    /** Promise 23: "`one`: 0 to 6560", "`other`: 0 to 6560" */
    private static void alikeMixes() {
        for (boolean all : new boolean[] {true, false}) {
            Bounds.promise(23, "`one`: 0 to 6560");
            Bounds.taken(Bounds.END_MIXES, "alike(_, 5, " + all + ")", NO_CALLS, (x, one) -> x.alike(one, 5, all));
            Bounds.refusedFor(Bounds.NO_MIXES, Bounds.BAD_VALUE, "alike(_, 5, " + all + ")", NO_CALLS, (x, one) -> x.alike(one, 5, all));
            Bounds.promise(23, "`other`: 0 to 6560");
            Bounds.taken(Bounds.END_MIXES, "alike(5, _, " + all + ")", NO_CALLS, (x, other) -> x.alike(5, other, all));
            Bounds.refusedFor(Bounds.NO_MIXES, Bounds.BAD_VALUE, "alike(5, _, " + all + ")", NO_CALLS, (x, other) -> x.alike(5, other, all));
        }
    }

    /** Promise 23: "Returns 1, otherwise 0; BAD_VALUE." */
    private static void alikeAnswers() {
        Bounds.promise(23, "Returns 1, otherwise 0; BAD_VALUE.");
        for (boolean all : new boolean[] {true, false}) {
            SpiceThrees x = new SpiceThrees();
            Bounds.due("alike(6560, 6560, " + all + ")", x.alike(6560, 6560, all), 1);
            Bounds.due("alike(6560, 6559, " + all + ")", x.alike(6560, 6559, all), 0);
            Bounds.due("alike(6561, 6561, " + all + ")", x.alike(6561, 6561, all), Bounds.BAD_VALUE);
            Bounds.due("alike(-1, -1, " + all + ")", x.alike(-1, -1, all), Bounds.BAD_VALUE);
            x.rule(1);
            Bounds.due("alike(6560, 6559, " + all + ")", x.alike(6560, 6559, all), 1);
            Bounds.due("alike(6560, 6557, " + all + ")", x.alike(6560, 6557, all), 0);
            x.drop(0);
            Bounds.due("alike(6560, 6559, " + all + ")", x.alike(6560, 6559, all), 0);
            Bounds.due("alike(6559, 6560, " + all + ")", x.alike(6559, 6560, all), 0);
            x.undo();
            Bounds.due("alike(6560, 6559, " + all + ")", x.alike(6560, 6559, all), 1);
        }
    }

    // ---- Promise 24: shelf

    private static final Bounds.Calls SHELVES = x -> {
        Bounds.jars(6560, 3, 1, 3, 2187, 0, 1).on(x);
        x.rule(2187 + 2);
    };

    private static void shelfTold(SpiceThrees x, int rank, int... due) {
        for (int what = 0; what < due.length; what++) {
            Bounds.due("shelf(" + rank + ", " + what + ")", x.shelf(rank, what), due[what]);
        }
    }

    /** Promise 24: "Tells a shelf: the jars of one taste; shelves are ordered by their tastes." */
    private static void shelfTells() {
        Bounds.promise(24, "Tells a shelf: the jars of one taste; shelves are ordered by their tastes.");
        SpiceThrees x = Bounds.made(SHELVES);
        // 2187 tastes like 1, and 6560 like 2185
        shelfTold(x, 0, 0, 1, 5, 5);
        shelfTold(x, 1, 1, 3, 2, 2);
        shelfTold(x, 2, 3, 2, 1, 1);
        shelfTold(x, 3, 2185, 1, 0, 0);
        Bounds.due("count(5)", x.count(5), 4);
        x.rule(3);
        shelfTold(x, 0, 0, 3, 1, 5);
        Bounds.due("count(5)", x.count(5), 3);
        SpiceThrees twelve = Bounds.made(Bounds.jars(6560, 6559, 6558, 6557, 6556, 6555, 5, 4, 3, 2, 1, 0));
        Bounds.due("count(5)", twelve.count(5), 12);
        for (int rank = 0; rank < 12; rank++) {
            shelfTold(twelve, rank, rank < 6 ? rank : 6549 + rank, 1, 11 - rank, 11 - rank);
        }
        for (int unit = 1; unit < 6561; unit *= 3) {
            twelve.rule(unit);
        }
        shelfTold(twelve, 0, 0, 12, 0, 11);
        Bounds.due("count(5)", twelve.count(5), 1);
        Bounds.due("shelf(1, 0)", twelve.shelf(1, 0), Bounds.NONE);
    }

    /** Promise 24: "`rank`: from 0, the least taste first" */
    private static void shelfRank() {
        Bounds.promise(24, "`rank`: from 0, the least taste first");
        for (int what = 0; what <= 3; what++) {
            int of = what;
            Bounds.taken(new int[] {0, 1, 2, 3}, "shelf(_, " + what + ")", SHELVES, (x, rank) -> x.shelf(rank, of));
            Bounds.refusedFor(FAR_BELOW, Bounds.BAD_VALUE, "shelf(_, " + what + ")", SHELVES, (x, rank) -> x.shelf(rank, of));
        }
        SpiceThrees x = Bounds.made(Bounds.jars(6560, 0, 1, 6559));
        int[] tastes = {0, 1, 6559, 6560};
        for (int rank = 0; rank < 4; rank++) {
            Bounds.due("shelf(" + rank + ", 0)", x.shelf(rank, 0), tastes[rank]);
        }
    }

    /** Promise 24: "`what`: 0 for the taste, ..., 3 for the jar with the least price, of several the lowest number" */
    private static void shelfWhat() {
        Bounds.promise(24, "`what`: 0 for the taste, 1 for how many jars it has, 2 for the jar with the lowest number, "
            + "3 for the jar with the least price, of several the lowest number");
        Bounds.taken(new int[] {0, 1, 2, 3}, "shelf(1, _)", SHELVES, (x, what) -> x.shelf(1, what));
        Bounds.refusedFor(new int[] {-1, 4, -2, 5, 256, 65536, Integer.MIN_VALUE, Integer.MAX_VALUE}, Bounds.BAD_VALUE, "shelf(1, _)",
            SHELVES, (x, what) -> x.shelf(1, what));
        // the jars 1 and 3 hold two units of a, the jar 2 one of h, which tastes so
        SpiceThrees x = Bounds.made(Bounds.jars(27, 2, 2187, 2));
        x.rule(2187 + 1);
        x.price(7, 3);
        shelfTold(x, 0, 2, 3, 1, 1);
        x.price(7, 2);
        shelfTold(x, 0, 2, 3, 1, 1);
        x.price(7, 1);
        shelfTold(x, 0, 2, 3, 1, 2);
        x.throwAway(1);
        shelfTold(x, 0, 2, 2, 2, 2);
        x.price(7, 2);
        shelfTold(x, 0, 2, 2, 2, 2);
        x.price(7, 3);
        shelfTold(x, 0, 2, 2, 2, 3);
        x.price(7, 0);
        x.price(0, 0);
        shelfTold(x, 0, 2, 2, 2, 2);
        shelfTold(x, 1, 27, 1, 0, 0);
    }

    /** Promise 24: "Returns the number; BAD_VALUE" */
    private static void shelfErrors() {
        Bounds.promise(24, "Returns the number; BAD_VALUE");
        Bounds.refused(Bounds.BAD_VALUE, "shelf(-1, 4)", SHELVES, x -> x.shelf(-1, 4));
        Bounds.refused(Bounds.BAD_VALUE, "shelf(4, 4), no such shelf", SHELVES, x -> x.shelf(4, 4));
        Bounds.refused(Bounds.BAD_VALUE, "shelf(0, -1), no jars", NO_CALLS, x -> x.shelf(0, -1));
        Bounds.due("shelf(3, 3)", Bounds.made(SHELVES).shelf(3, 3), 0);
    }

    /** Promise 24: "NONE if there are not so many shelves." */
    private static void shelfNone() {
        Bounds.promise(24, "NONE if there are not so many shelves.");
        for (int what = 0; what <= 3; what++) {
            int of = what;
            Bounds.refusedFor(new int[] {0, 1, Integer.MAX_VALUE}, Bounds.NONE, "shelf(_, " + what + ")", NO_CALLS, (x, rank) -> x.shelf(rank, of));
            Bounds.refusedFor(new int[] {4, 5, 6, 7, 12, 65536, Integer.MAX_VALUE}, Bounds.NONE, "shelf(_, " + what + ")", SHELVES,
                (x, rank) -> x.shelf(rank, of));
            Bounds.refusedFor(new int[] {12, 13}, Bounds.NONE, "shelf(_, " + what + ")", TWELVE, (x, rank) -> x.shelf(rank, of));
        }
        Bounds.due("shelf(11, 0)", Bounds.made(TWELVE).shelf(11, 0), 12);
    }

    // ---- Promise 25: waiting

    private static final Bounds.Calls EIGHT_WANTS = x -> {
        for (int mix : new int[] {6560, 0, 1, 6559, 0, 5, 5, 2187}) {
            x.want(mix);
        }
    };

    /** Promise 25: "`rank`: from 0, the first customer first" */
    private static void waitingRank() {
        Bounds.promise(25, "`rank`: from 0, the first customer first");
        SpiceThrees x = Bounds.made(EIGHT_WANTS);
        Bounds.due("waiting(0)", x.waiting(0), 6560);
        Bounds.due("waiting(1)", x.waiting(1), 0);
        Bounds.due("waiting(6)", x.waiting(6), 5);
        Bounds.due("waiting(7)", x.waiting(7), 2187);
        x.serve();
        Bounds.due("waiting(0)", x.waiting(0), 0);
        Bounds.due("waiting(6)", x.waiting(6), 2187);
        Bounds.due("waiting(7)", x.waiting(7), Bounds.NONE);
    }

    /** Promise 25: "Returns the mix that was told" */
    private static void waitingMix() {
        Bounds.promise(25, "Returns the mix that was told");
        SpiceThrees x = Bounds.made(EIGHT_WANTS);
        x.rule(6560);
        x.rule(1);
        Bounds.same("the customers, not their tastes", Bounds.waitingTold(x), "6560 0 1 6559 0 5 5 2187");
    }

    /** Promise 25: "BAD_VALUE if rank is negative; NONE if there are not so many." */
    private static void waitingErrors() {
        Bounds.promise(25, "BAD_VALUE if rank is negative; NONE if there are not so many.");
        Bounds.refusedFor(FAR_BELOW, Bounds.BAD_VALUE, "waiting(_)", NO_CALLS, SpiceThrees::waiting);
        Bounds.refusedFor(FAR_BELOW, Bounds.BAD_VALUE, "waiting(_)", EIGHT_WANTS, SpiceThrees::waiting);
        Bounds.refusedFor(new int[] {0, 1, 8, Integer.MAX_VALUE}, Bounds.NONE, "waiting(_)", NO_CALLS, SpiceThrees::waiting);
        Bounds.refusedFor(new int[] {8, 9, 256, 65536, Integer.MAX_VALUE}, Bounds.NONE, "waiting(_)", EIGHT_WANTS, SpiceThrees::waiting);
        Bounds.refused(Bounds.NONE, "waiting(1), one waits", x -> x.want(5), x -> x.waiting(1));
        Bounds.due("waiting(0), one waits", Bounds.made(x -> x.want(5)).waiting(0), 5);
    }

    // ---- Promise 26: count

    /** Promise 26: "`what`: 0 for the jars, ..., 17 for the length of the text", "BAD_VALUE" */
    private static void countWhat() {
        Bounds.promise(26, "`what`: 0 for the jars, 1 for the rules, 2 for the strength of the rules, 3 for bland mixes, "
            + "4 for tastes (how many there are), 5 for shelves, 6 for customers who wait, 7 for units bought so far, "
            + "8 for those that cancelled, 9 for those sold, 10 for those thrown away, 11 for those in jars, 12 for coins paid, "
            + "13 for coins taken, 14 for customers served with a jar, 15 for those let go, 16 for the states in the history, "
            + "17 for the length of the text");
        Bounds.taken(new int[] {0, 1, 2, 3, 4, 5, 6, 7, 8, 9, 10, 11, 12, 13, 14, 15, 16, 17}, "count(_)", SHELVES, SpiceThrees::count);
        Bounds.promise(26, "BAD_VALUE.");
        int[] outside = {-1, 18, -2, 19, 256, 65536, Integer.MIN_VALUE, Integer.MAX_VALUE};
        Bounds.refusedFor(outside, Bounds.BAD_VALUE, "count(_)", NO_CALLS, SpiceThrees::count);
        Bounds.refusedFor(outside, Bounds.BAD_VALUE, "count(_)", SHELVES, SpiceThrees::count);
    }

    private static void countTold(SpiceThrees x, int... due) {
        for (int what = 0; what < due.length; what++) {
            Bounds.due("count(" + what + ")", x.count(what), due[what]);
        }
    }

    /** Promise 26: "Returns the number" */
    private static void countNumbers() {
        Bounds.promise(26, "Returns the number");
        SpiceThrees x = new SpiceThrees();
        countTold(x, 0, 0, 0, 1, 6561, 0, 0, 0, 0, 0, 0, 0, 0, 0, 0, 0, 0, 0);
        x.jar(6560);
        countTold(x, 1, 0, 0, 1, 6561, 1, 0, 16, 0, 0, 0, 16, 72, 0, 0, 0, 1, 0);
        x.more(0);
        countTold(x, 1, 0, 0, 1, 6561, 1, 0, 32, 24, 0, 0, 8, 144, 0, 0, 0, 2, 0);
        x.rule(5);
        x.want(3280);
        countTold(x, 1, 1, 1, 3, 2187, 1, 1, 32, 24, 0, 0, 8, 144, 0, 0, 0, 4, 0);
        x.serve();
        countTold(x, 0, 1, 1, 3, 2187, 0, 0, 32, 24, 8, 0, 0, 144, 54, 1, 0, 4, 0);
        x.want(0);
        x.serve();
        x.type(';');
        countTold(x, 0, 1, 1, 3, 2187, 0, 0, 32, 24, 8, 0, 0, 144, 54, 1, 1, 4, 1);
        x.jar(5);
        x.throwAway(1);
        countTold(x, 0, 1, 1, 3, 2187, 0, 0, 35, 24, 8, 3, 0, 148, 54, 1, 1, 4, 1);
        x.undo();
        countTold(x, 1, 1, 1, 3, 2187, 1, 0, 35, 24, 8, 0, 3, 148, 54, 1, 1, 3, 1);
        SpiceThrees most = Bounds.made(TWELVE);
        for (int unit = 1; unit < 6561; unit *= 3) {
            most.rule(unit);
            most.want(unit);
        }
        Bounds.write(most, "jar=a;jar=a;jar=a;jar=a;jar=a;jar=a;jar=a;jar=a;jar=a;jar=aaa");
        countTold(most, 12, 8, 8, 6561, 1, 1, 8, 26, 0, 0, 0, 26, 44, 0, 0, 0, 4, 60);
    }

    // ---- Promise 27: lost

    /** Promise 27: "Returns the share: those that cancelled, as a double, divided by all" */
    private static void lostShare() {
        Bounds.promise(27, "Tells how much of all units bought cancelled.");
        Bounds.promise(27, "Returns the share: those that cancelled, as a double, divided by all");
        SpiceThrees x = new SpiceThrees();
        x.jar(1);
        Bounds.due("lost(), none of one", x.lost(), 0.0);
        x.jar(2);
        Bounds.due("lost(), none of three", x.lost(), 0.0);
        x.pour(0, 1);
        Bounds.due("lost(), three of three", x.lost(), 1.0);
        x.jar(1);
        Bounds.due("lost(), three of four", x.lost(), 0.75);
        x.jar(6);
        x.jar(1);
        Bounds.due("lost(), three of seven", x.lost(), 3.0 / 7.0);
        x.throwAway(2);
        x.want(6);
        x.serve();
        Bounds.due("lost(), thrown and sold units are bought still", x.lost(), 3.0 / 7.0);
        x.undo();
        Bounds.write(x, "jar=h9h9h9h9h9h9h9h9h9h9h9h9h9h9h9h9h9h9h9h9h9h9h9h9h9h9h9h9");
        x.doAll();
        Bounds.due("lost(), 255 of 259", x.lost(), 255.0 / 259.0);
        x.undo();
        Bounds.due("lost(), as before", x.lost(), 3.0 / 7.0);
    }

    /** Promise 27: "0.0 without any." */
    private static void lostNothing() {
        Bounds.promise(27, "0.0 without any.");
        SpiceThrees x = new SpiceThrees();
        Bounds.due("lost() at first", x.lost(), 0.0);
        Bounds.due("whether it is not below zero", 1 / x.lost() > 0 ? 1 : 0, 1);
        x.jar(0);
        x.rule(6560);
        x.more(0);
        Bounds.due("lost() of an empty jar", x.lost(), 0.0);
        x.jar(1);
        Bounds.due("lost() of one unit", x.lost(), 0.0);
        x.keep();
        x.more(1);
        x.more(1);
        Bounds.due("lost() of four units", x.lost(), 0.75);
        x.undo();
        x.undo();
        x.undo();
        Bounds.due("lost(), as no unit was bought", x.lost(), 0.0);
    }
}

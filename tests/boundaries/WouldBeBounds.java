/** The sentences of the promises 28 to 31: fewest, makes, needless, ifPoured. */
final class WouldBeBounds {
    private static final Bounds.Calls NO_CALLS = x -> { };
    private static final Bounds.Calls SOME_JARS = x -> {
        Bounds.jars(27, 5, 13, 81, 244).on(x);
        x.throwAway(0);
        x.throwAway(3);
    };
    /** No jar of SOME_JARS. */
    private static final int[] NO_JARS = {-1, 0, 3, 5, 6, -2, 200, 257, 258, 65537, 65538, Integer.MIN_VALUE, Integer.MAX_VALUE};
    /** Twelve jars of which each sum is another one but for a twice and so on. */
    private static final Bounds.Calls TWELVE = Bounds.jars(1, 1, 3, 3, 9, 9, 27, 27, 81, 243, 729, 2187);

    private WouldBeBounds() {
    }

    static void test() {
        fewestMix();
        fewestWhat();
        fewestTakenOnce();
        fewestBland();
        fewestLeastSet();
        fewestNumbers();
        fewestErrors();
        fewestNone();
        makesTastes();
        makesHowMany();
        needlessLowest();
        needlessRule();
        needlessNone();
        ifPouredTaste();
        ifPouredJar();
        ifPouredOther();
        ifPouredUnknown();
        ifPouredSame();
    }

    private static void fewest(SpiceThrees x, int mix, int size, int set) {
        Bounds.due("fewest(" + mix + ", 0)", x.fewest(mix, 0), size);
        Bounds.due("fewest(" + mix + ", 1)", x.fewest(mix, 1), set);
    }

    // ---- Promise 28: fewest

    /** Promise 28: "`mix`: 0 to 6560" */
    private static void fewestMix() {
        Bounds.promise(28, "`mix`: 0 to 6560");
        Bounds.Calls some = Bounds.jars(6560, 6559, 1);
        SpiceThrees x = Bounds.made(some);
        fewest(x, 0, 0, 0);
        fewest(x, 1, 1, 4);
        fewest(x, 6559, 1, 2);
        fewest(x, 6560, 1, 1);
        for (int what = 0; what <= 1; what++) {
            int of = what;
            Bounds.refusedFor(Bounds.NO_MIXES, Bounds.BAD_VALUE, "fewest(_, " + what + ")", some, (y, mix) -> y.fewest(mix, of));
        }
    }

    /** Promise 28: "`what`: 0 for how many (0 if it is bland), 1 for the jars, as a set of bits by their ranks" */
    private static void fewestWhat() {
        Bounds.promise(28, "`what`: 0 for how many (0 if it is bland), 1 for the jars, as a set of bits by their ranks; "
            + "of several sets the one with the least number");
        Bounds.taken(new int[] {0, 1}, "fewest(5, _)", SOME_JARS, (x, what) -> x.fewest(5, what));
        Bounds.refusedFor(new int[] {-1, 2, -2, 3, 256, 65536, Integer.MIN_VALUE, Integer.MAX_VALUE}, Bounds.BAD_VALUE, "fewest(5, _)",
            SOME_JARS, (x, what) -> x.fewest(5, what));
        // by ranks, not by numbers: the jars 1, 2 and 4 have the ranks 0, 1 and 2
        SpiceThrees x = Bounds.made(SOME_JARS);
        fewest(x, 5, 1, 1);
        fewest(x, 13, 1, 2);
        fewest(x, 244, 1, 4);
        fewest(x, 244 + 1 + 3 + 9, 2, 6);
        fewest(x, 243 + 1 + 6 + 9, 3, 7);
        fewest(x, 243 + 1 + 9, Bounds.NONE, Bounds.NONE);
    }

    /** Promise 28: "Finds the fewest jars, each taken once at most, that together taste like a mix." */
    private static void fewestTakenOnce() {
        Bounds.promise(28, "Finds the fewest jars, each taken once at most, that together taste like a mix.");
        SpiceThrees x = Bounds.made(Bounds.jars(1));
        fewest(x, 1, 1, 1);
        fewest(x, 2, Bounds.NONE, Bounds.NONE);
        x.jar(1);
        fewest(x, 2, 2, 3);
        fewest(x, 1, 1, 1);
        x.jar(2);
        fewest(x, 2, 1, 4);
        fewest(x, 0, 0, 0);
        x.rule(3);
        fewest(x, 5, 1, 4);
        SpiceThrees y = Bounds.made(TWELVE);
        fewest(y, 80 + 3240, 12, 4095);
        fewest(y, 79 + 3240, 11, 4093);
        fewest(y, 78 + 3240, 10, 4092);
        fewest(y, 80 + 1053, 11, 2047);
        fewest(y, 80 + 1053 + 2187 * 2, Bounds.NONE, Bounds.NONE);
        fewest(y, 6560, Bounds.NONE, Bounds.NONE);
        fewest(y, 2187, 1, 2048);
    }

    /** Promise 28: "(0 if it is bland)" */
    private static void fewestBland() {
        Bounds.promise(28, "0 for how many (0 if it is bland)");
        SpiceThrees x = new SpiceThrees();
        fewest(x, 0, 0, 0);
        fewest(x, 1, Bounds.NONE, Bounds.NONE);
        x.rule(1);
        fewest(x, 1, 0, 0);
        fewest(x, 2, 0, 0);
        fewest(x, 3, Bounds.NONE, Bounds.NONE);
        x.jar(0);
        x.jar(2);
        fewest(x, 1, 0, 0);
        x.drop(0);
        fewest(x, 1, Bounds.NONE, Bounds.NONE);
        fewest(x, 2, 1, 2);
        for (int unit = 1; unit < 6561; unit *= 3) {
            x.rule(unit);
        }
        fewest(x, 6560, 0, 0);
    }

    /** Promise 28: "of several sets the one with the least number" */
    private static void fewestLeastSet() {
        Bounds.promise(28, "of several sets the one with the least number");
        SpiceThrees x = Bounds.made(Bounds.jars(2, 4, 1, 3, 3, 1, 4));
        // 4 itself by the jars 1 and 6, and 5 by the jars 0 and 3 or 1 and 2
        fewest(x, 4, 1, 2);
        fewest(x, 5, 2, 2 + 4);
        fewest(x, 3, 1, 8);
        fewest(x, 6, 2, 16 + 8);
        SpiceThrees y = Bounds.made(Bounds.jars(3, 1, 1, 1, 4));
        // 7 is 3 and 4: fewer jars come before a lower number
        fewest(y, 4, 1, 16);
        fewest(y, 5, 2, 2 + 16);
        SpiceThrees all = Bounds.made(Bounds.jars(5, 5, 5, 5, 5, 5, 5, 5, 5, 5, 5, 5));
        fewest(all, 5, 1, 1);
        fewest(all, 7, 2, 3);
        fewest(all, 0, 0, 0);
    }

    /** Promise 28: "Returns the number" */
    private static void fewestNumbers() {
        Bounds.promise(28, "Returns the number");
        SpiceThrees x = Bounds.made(Bounds.jars(0, 0, 0, 0, 0, 0, 0, 0, 0, 0, 0, 6560));
        fewest(x, 0, 0, 0);
        fewest(x, 6560, 1, 2048);
        x.throwAway(0);
        fewest(x, 6560, 1, 1024);
        x.rule(3280);
        fewest(x, 6560, 0, 0);
    }

    /** Promise 28: "BAD_VALUE" before NONE */
    private static void fewestErrors() {
        Bounds.promise(28, "BAD_VALUE");
        Bounds.refused(Bounds.BAD_VALUE, "fewest(6561, 2)", NO_CALLS, x -> x.fewest(6561, 2));
        Bounds.refused(Bounds.BAD_VALUE, "fewest(1, 2)", NO_CALLS, x -> x.fewest(1, 2));
        Bounds.refused(Bounds.BAD_VALUE, "fewest(1, -1)", NO_CALLS, x -> x.fewest(1, -1));
        Bounds.refused(Bounds.NONE, "fewest(1, 1)", NO_CALLS, x -> x.fewest(1, 1));
        Bounds.due("fewest(0, 1)", new SpiceThrees().fewest(0, 1), 0);
    }

    /** Promise 28: "NONE if there are no such jars." */
    private static void fewestNone() {
        Bounds.promise(28, "NONE if there are no such jars.");
        Bounds.refused(Bounds.NONE, "fewest(6560, 0), no jars", NO_CALLS, x -> x.fewest(6560, 0));
        Bounds.refused(Bounds.NONE, "fewest(2, 0), one unit", Bounds.jars(1), x -> x.fewest(2, 0));
        Bounds.refused(Bounds.NONE, "fewest(2, 1), one unit", Bounds.jars(1), x -> x.fewest(2, 1));
        Bounds.refused(Bounds.NONE, "fewest(1, 0), an empty jar", Bounds.jars(0), x -> x.fewest(1, 0));
        Bounds.due("fewest(2, 0), two jars", Bounds.made(Bounds.jars(1, 1)).fewest(2, 0), 2);
    }

    // ---- Promise 29: makes

    /** Promise 29: "Tells how many tastes can be made by jars together, each taken once at most." */
    private static void makesTastes() {
        Bounds.promise(29, "Tells how many tastes can be made by jars together, each taken once at most.");
        SpiceThrees x = new SpiceThrees();
        x.jar(0);
        Bounds.due("makes() of an empty jar", x.makes(), 1);
        x.jar(1);
        Bounds.due("makes(), a or none", x.makes(), 2);
        x.jar(1);
        Bounds.due("makes(), a twice at most", x.makes(), 3);
        x.jar(1);
        Bounds.due("makes(), three of them leave none", x.makes(), 3);
        x.jar(6560);
        Bounds.due("makes(), with or without", x.makes(), 6);
        x.rule(3279);
        // 6560 tastes like two units of a then
        Bounds.due("makes(), by tastes", x.makes(), 3);
        x.rule(1);
        Bounds.due("makes(), all bland", x.makes(), 1);
        x.undo();
        Bounds.due("makes(), by tastes", x.makes(), 3);
    }

    /** Promise 29: "Returns how many." */
    private static void makesHowMany() {
        Bounds.promise(29, "Returns how many.");
        Bounds.due("makes() without jars, of no jars what is bland", new SpiceThrees().makes(), 1);
        Bounds.due("makes() of all spices once", Bounds.made(Bounds.jars(1, 3, 9, 27, 81, 243, 729, 2187)).makes(), 256);
        Bounds.due("makes() of four of them twice", Bounds.made(TWELVE).makes(), 81 * 16);
        Bounds.due("makes() of twelve the same", Bounds.made(Bounds.jars(5, 5, 5, 5, 5, 5, 5, 5, 5, 5, 5, 5)).makes(), 3);
        SpiceThrees x = Bounds.made(TWELVE);
        x.rule(1);
        Bounds.due("makes() without a", x.makes(), 27 * 16);
        x.throwAway(11);
        Bounds.due("makes() without a and h", x.makes(), 27 * 8);
    }

    // ---- Promise 30: needless

    /** Promise 30: "Finds the rule without which the rules are as strong as with it, of several the lowest." */
    private static void needlessLowest() {
        Bounds.promise(30, "Finds the rule without which the rules are as strong as with it, of several the lowest.");
        needless(0, 0);
        needless(Bounds.NONE, 1);
        needless(1, 1, 0);
        needless(0, 0, 1);
        needless(0, 1, 1);
        needless(0, 1, 2);
        needless(Bounds.NONE, 1, 3);
        needless(0, 1, 3, 4);
        needless(1, 9, 1, 3, 4);
        needless(1, 1, 3, 9, 27, 81, 243, 729, 3);
        needless(0, 6560, 1, 3, 9, 27, 81, 243, 6560 - 3280);
        needless(7, 1, 3, 9, 27, 81, 243, 729, 0);
    }

    private static void needless(int due, int... rules) {
        SpiceThrees x = new SpiceThrees();
        for (int rule : rules) {
            x.rule(rule);
        }
        Bounds.due("needless() of the rules " + Bounds.rulesTold(x), x.needless(), due);
        if (due >= 0) {
            Bounds.due("drop(" + due + ")", x.drop(due), x.count(2));
            x.undo();
            Bounds.due("needless() once more", x.needless(), due);
        }
    }

    /** Promise 30: "Returns the rule" */
    private static void needlessRule() {
        Bounds.promise(30, "Returns the rule");
        SpiceThrees x = new SpiceThrees();
        for (int rule = 0; rule < 8; rule++) {
            x.rule(0);
        }
        for (int left = 8; left > 0; left--) {
            Bounds.due("needless() of " + left + " empty rules", x.needless(), 0);
            x.drop(left - 1);
        }
        for (int place = 0; place < 8; place++) {
            SpiceThrees y = new SpiceThrees();
            int unit = 1;
            for (int rule = 0; rule < 8; rule++) {
                y.rule(rule == place ? 0 : unit);
                unit *= 3;
            }
            Bounds.due("needless(), the rule " + place + " is empty", y.needless(), place);
            Bounds.due("count(1), it is not dropped", y.count(1), 8);
        }
    }

    /** Promise 30: "NONE if there is none." */
    private static void needlessNone() {
        Bounds.promise(30, "NONE if there is none.");
        Bounds.refused(Bounds.NONE, "needless(), no rules", NO_CALLS, SpiceThrees::needless);
        Bounds.refused(Bounds.NONE, "needless(), one rule", x -> x.rule(6560), SpiceThrees::needless);
        Bounds.refused(Bounds.NONE, "needless(), eight rules", x -> {
            for (int unit = 1; unit < 6561; unit *= 3) {
                x.rule(unit + (unit < 2187 ? 3 * unit : 0));
            }
        }, SpiceThrees::needless);
        SpiceThrees x = new SpiceThrees();
        x.rule(1);
        x.rule(2);
        Bounds.due("needless() of two", x.needless(), 0);
        x.drop(1);
        Bounds.due("needless() of one", x.needless(), Bounds.NONE);
        x.undo();
        Bounds.due("needless() of two", x.needless(), 0);
    }

    // ---- Promise 31: ifPoured

    /** Promise 31: "Tells what pouring would bring: the taste of two jars together.", "Returns the taste" */
    private static void ifPouredTaste() {
        Bounds.promise(31, "Tells what pouring would bring: the taste of two jars together.");
        SpiceThrees x = Bounds.made(Bounds.jars(6560, 6560, 3280, 0, 1, 0));
        Bounds.due("ifPoured(0, 1)", x.ifPoured(0, 1), 3280);
        Bounds.due("ifPoured(0, 2), all cancel", x.ifPoured(0, 2), 0);
        Bounds.due("ifPoured(3, 0), the first one is empty", x.ifPoured(3, 0), 6560);
        Bounds.due("ifPoured(0, 3), the second one is empty", x.ifPoured(0, 3), 6560);
        Bounds.due("ifPoured(3, 5), both are empty", x.ifPoured(3, 5), 0);
        Bounds.due("ifPoured(4, 0)", x.ifPoured(4, 0), 6558);
        Bounds.promise(31, "Returns the taste");
        x.rule(6560);
        Bounds.due("ifPoured(0, 1), bland", x.ifPoured(0, 1), 0);
        Bounds.due("ifPoured(4, 0)", x.ifPoured(4, 0), 1);
        Bounds.due("ifPoured(0, 4)", x.ifPoured(0, 4), 1);
        Bounds.same("the jars, as nothing is poured", Bounds.jarsTold(x), "0:6560 1:6560 2:3280 3:0 4:1 5:0");
        Bounds.due("count(8)", x.count(8), 0);
        x.pour(0, 4);
        Bounds.due("jarOf(4, 3), now that it is poured", x.jarOf(4, 3), 1);
    }

    /** Promise 31: "`jar`: a jar" */
    private static void ifPouredJar() {
        Bounds.promise(31, "`jar`: a jar");
        Bounds.due("ifPoured(1, 2), the lowest jar", Bounds.made(SOME_JARS).ifPoured(1, 2), 6 + 9);
        Bounds.due("ifPoured(4, 2), the highest jar", Bounds.made(SOME_JARS).ifPoured(4, 2), 257);
        Bounds.refusedFor(NO_JARS, Bounds.UNKNOWN, "ifPoured(_, 2)", SOME_JARS, (x, jar) -> x.ifPoured(jar, 2));
    }

    /** Promise 31: "`other`: a jar" */
    private static void ifPouredOther() {
        Bounds.promise(31, "`other`: a jar");
        Bounds.due("ifPoured(2, 1), the lowest jar", Bounds.made(SOME_JARS).ifPoured(2, 1), 6 + 9);
        Bounds.due("ifPoured(2, 4), the highest jar", Bounds.made(SOME_JARS).ifPoured(2, 4), 257);
        Bounds.refusedFor(NO_JARS, Bounds.UNKNOWN, "ifPoured(2, _)", SOME_JARS, (x, jar) -> x.ifPoured(2, jar));
    }

    /** Promise 31: "UNKNOWN" */
    private static void ifPouredUnknown() {
        Bounds.promise(31, "UNKNOWN");
        Bounds.refused(Bounds.UNKNOWN, "ifPoured(0, 0), no jars", NO_CALLS, x -> x.ifPoured(0, 0));
        Bounds.refused(Bounds.UNKNOWN, "ifPoured(3, 3), the same and unknown", SOME_JARS, x -> x.ifPoured(3, 3));
        Bounds.refused(Bounds.UNKNOWN, "ifPoured(0, 3), both unknown", SOME_JARS, x -> x.ifPoured(0, 3));
        Bounds.due("ifPoured(1, 4)", Bounds.made(SOME_JARS).ifPoured(1, 4), 3 + 243);
    }

    /** Promise 31: "BAD_VALUE if both are the same." */
    private static void ifPouredSame() {
        Bounds.promise(31, "BAD_VALUE if both are the same.");
        Bounds.refused(Bounds.BAD_VALUE, "ifPoured(1, 1)", SOME_JARS, x -> x.ifPoured(1, 1));
        Bounds.refused(Bounds.BAD_VALUE, "ifPoured(4, 4)", SOME_JARS, x -> x.ifPoured(4, 4));
        Bounds.refused(Bounds.BAD_VALUE, "ifPoured(0, 0), empty", Bounds.jars(0), x -> x.ifPoured(0, 0));
        Bounds.due("ifPoured(0, 1), the same mix", Bounds.made(Bounds.jars(5, 5)).ifPoured(0, 1), 7);
    }
}

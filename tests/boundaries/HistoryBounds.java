/** The sentences on the history and on errors, and those of the promises 15 to 17: undo, keep, restore. */
final class HistoryBounds {
    private static final Bounds.Calls NO_CALLS = x -> { };

    /** A shop in which every act can be done: with jars, rules, customers, a text and a snapshot, and nothing to undo. */
    private static final Bounds.Calls READY = x -> {
        Bounds.write(x, "jar=a2b;jar=c;jar=ha;rule=d;rule=e;want=c;want=d");
        x.doAll();
        x.keep();
        Bounds.write(x, "jar=b;want=a;drop=1");
    };

    private static final String[] ACTS = {"jar", "pour", "more", "throwAway", "rule", "drop", "price", "want", "serve", "doAll", "restore"};

    /** All calls whose answers depend on the rules. */
    private static final Bounds.Call[] BY_RULES = {x -> x.jarOf(0, 3), x -> x.jarOf(0, 4), x -> x.jarOf(1, 5), x -> x.jarOf(1, 6),
        x -> x.mixOf(1, 2), x -> x.mixOf(3, 3), x -> x.mixOf(9, 4), x -> x.mixOf(3, 6), x -> x.alike(1, 0, true), x -> x.alike(1, 0, false),
        x -> x.alike(0, 3, true), x -> x.alike(0, 3, false), x -> x.shelf(0, 0), x -> x.shelf(0, 1), x -> x.shelf(1, 2), x -> x.shelf(0, 3),
        x -> x.count(2), x -> x.count(3), x -> x.count(4), x -> x.count(5), x -> x.fewest(1, 0), x -> x.fewest(12, 1), SpiceThrees::makes,
        SpiceThrees::needless, x -> x.ifPoured(0, 1), x -> x.rule(0), x -> x.drop(0), SpiceThrees::serve};

    private HistoryBounds() {
    }

    static void test() {
        fourStates();
        oldestIsDropped();
        latestIsRestored();
        recordedActs();
        unrecordedErrors();
        oneSnapshot();
        emptySnapshot();
        whatAStateIs();
        rulesOfAState();
        orderOfErrors();
        noneIsNoError();
        nothingIsChanged();
        constants();
        actsOfPromises();
        undoRestores();
        undoLeft();
        undoEmpty();
        keepReplaces();
        keepJars();
        restoreStays();
        restoreJars();
        restoreNone();
    }

    private static int act(SpiceThrees x, String name) {
        switch (name) {
            case "jar":
                return x.jar(7);
            case "pour":
                return x.pour(0, 1);
            case "more":
                return x.more(2);
            case "throwAway":
                return x.throwAway(1);
            case "rule":
                return x.rule(729);
            case "drop":
                return x.drop(0);
            case "price":
                return x.price(7, 77);
            case "want":
                return x.want(6560);
            case "serve":
                return x.serve();
            case "doAll":
                return x.doAll();
            default:
                return x.restore();
        }
    }

    // ---- Terms

    /** Terms: "A history of at most 4 states is kept" */
    private static void fourStates() {
        Bounds.terms("A history of at most 4 states is kept");
        SpiceThrees x = new SpiceThrees();
        Bounds.due("count(16) at first", x.count(16), 0);
        for (int acts = 1; acts <= 7; acts++) {
            x.price(0, 10 + acts);
            Bounds.due("count(16) after " + acts + " acts", x.count(16), Math.min(acts, 4));
        }
        for (int left = 3; left >= 0; left--) {
            Bounds.due("undo()", x.undo(), left);
            Bounds.due("count(16)", x.count(16), left);
        }
        Bounds.due("undo()", x.undo(), Bounds.NONE);
        Bounds.due("count(16)", x.count(16), 0);
    }

    /** Terms: "when one more is recorded, the oldest one is dropped" */
    private static void oldestIsDropped() {
        Bounds.terms("when one more is recorded, the oldest one is dropped");
        for (int acts = 1; acts <= 12; acts++) {
            SpiceThrees x = new SpiceThrees();
            for (int act = 1; act <= acts; act++) {
                x.price(0, 10 + act);
            }
            int undone = 0;
            for (int step = 0; step < 6; step++) {
                int answer = x.undo();
                Bounds.due("undo " + step + " after " + acts + " acts", answer, step < Math.min(acts, 4) ? Math.min(acts, 4) - step - 1 : Bounds.NONE);
                undone += answer >= 0 ? 1 : 0;
                int price = acts == undone ? 1 : 10 + acts - undone;
                Bounds.due("the price then", x.mixOf(1, 1), price);
            }
        }
    }

    /** Terms: "undo() removes and restores the latest one." */
    private static void latestIsRestored() {
        Bounds.terms("undo() removes and restores the latest one.");
        SpiceThrees x = new SpiceThrees();
        x.price(0, 11);
        x.price(0, 12);
        x.price(0, 13);
        x.undo();
        Bounds.due("the price", x.mixOf(1, 1), 12);
        x.price(0, 14);
        x.price(0, 15);
        x.price(0, 16);
        int[] prices = {15, 14, 12, 11};
        for (int step = 0; step < 4; step++) {
            Bounds.due("undo()", x.undo(), 3 - step);
            Bounds.due("the price", x.mixOf(1, 1), prices[step]);
        }
        // the state before the first act was dropped as the fifth one was recorded
        Bounds.due("undo()", x.undo(), Bounds.NONE);
        Bounds.due("the price", x.mixOf(1, 1), 11);
        // undo is no act: what it took back can't be brought back
        Bounds.due("count(16)", x.count(16), 0);
    }

    /** Terms: "Each call of a method that is described as an act, and returns no error and not NONE, records ..." */
    private static void recordedActs() {
        Bounds.terms("Each call of a method that is described as an act, and returns no error and not NONE, records the state that was before it.");
        for (String name : ACTS) {
            SpiceThrees x = Bounds.made(READY);
            String before = Bounds.stateTold(x);
            Bounds.due("count(16)", x.count(16), 1);
            Bounds.due("whether " + name + " is done", act(x, name) >= 0 ? 1 : 0, 1);
            Bounds.due("count(16) after " + name, x.count(16), 2);
            Bounds.due("undo() of " + name, x.undo(), 1);
            Bounds.same("the state after undo() of " + name, Bounds.stateTold(x), before);
            actOfManyStates(name);
        }
        // also an act by which nothing changes is recorded
        SpiceThrees x = new SpiceThrees();
        x.keep();
        Bounds.due("restore() of the same state", x.restore(), 0);
        Bounds.due("count(16)", x.count(16), 1);
    }

    /** With a full history the act drops the oldest state, and its own state is the latest. */
    private static void actOfManyStates(String name) {
        SpiceThrees x = Bounds.made(READY);
        for (int price = 50; price < 54; price++) {
            x.price(0, price);
        }
        act(x, name);
        Bounds.due("count(16) after " + name, x.count(16), 4);
        for (int price = 53; price >= 50; price--) {
            Bounds.due("undo()", x.undo(), price - 50);
            Bounds.due("the price after undo() of " + name, x.mixOf(1, 1), price);
        }
        Bounds.due("undo()", x.undo(), Bounds.NONE);
    }

    /** Terms: "returns no error and not NONE" */
    private static void unrecordedErrors() {
        Bounds.terms("returns no error and not NONE");
        SpiceThrees x = Bounds.made(Bounds.jars(0, 5));
        for (int round = 0; round < 3; round++) {
            int states = x.count(16);
            Bounds.due("jar", x.jar(6561), Bounds.BAD_VALUE);
            Bounds.due("pour", x.pour(0, 2), Bounds.UNKNOWN);
            Bounds.due("pour", x.pour(0, 0), Bounds.BAD_VALUE);
            Bounds.due("pour", x.pour(0, 1), Bounds.NONE);
            Bounds.due("more", x.more(2), Bounds.UNKNOWN);
            Bounds.due("more", x.more(0), Bounds.NONE);
            Bounds.due("throwAway", x.throwAway(2), Bounds.UNKNOWN);
            Bounds.due("rule", x.rule(-1), Bounds.BAD_VALUE);
            Bounds.due("drop", x.drop(0), Bounds.UNKNOWN);
            Bounds.due("price", x.price(8, 1), Bounds.UNKNOWN);
            Bounds.due("price", x.price(1, 100), Bounds.BAD_VALUE);
            Bounds.due("price", x.price(1, 2), Bounds.NONE);
            Bounds.due("want", x.want(6561), Bounds.BAD_VALUE);
            Bounds.due("serve", x.serve(), Bounds.NONE);
            Bounds.due("doAll", x.doAll(), -100);
            Bounds.due("restore", x.restore(), Bounds.NONE);
            Bounds.due("count(16)", x.count(16), states);
            x.price(0, 20 + round);
            x.price(0, 30 + round);
        }
    }

    /** Terms: "There is one snapshot" */
    private static void oneSnapshot() {
        Bounds.terms("There is one snapshot, empty at first.");
        SpiceThrees x = new SpiceThrees();
        x.jar(1);
        x.keep();
        x.jar(3);
        x.keep();
        x.jar(9);
        Bounds.due("restore()", x.restore(), 2);
        x.throwAway(0);
        Bounds.due("restore() once more, of the same one", x.restore(), 2);
        // undo takes the restore back, but not the snapshot
        x.undo();
        Bounds.same("the jars", Bounds.jarsTold(x), "1:3");
        Bounds.due("restore()", x.restore(), 2);
    }

    /** Terms: "empty at first" */
    private static void emptySnapshot() {
        Bounds.terms("empty at first");
        SpiceThrees x = Bounds.made(Bounds.jars(1, 3));
        Bounds.due("restore() before keep()", x.restore(), Bounds.NONE);
        Bounds.same("the jars", Bounds.jarsTold(x), "0:1 1:3");
        SpiceThrees y = new SpiceThrees();
        Bounds.due("keep() of the state at first", y.keep(), 0);
        y.jar(1);
        Bounds.due("restore()", y.restore(), 0);
        Bounds.same("the jars", Bounds.jarsTold(y), "");
    }

    /** Terms: "A state is everything but the text, the history and the snapshot." */
    private static void whatAStateIs() {
        Bounds.terms("A state is everything but the text, the history and the snapshot.");
        SpiceThrees x = Bounds.made(READY);
        String kept = Bounds.stateTold(x);
        for (String name : new String[] {"jar", "pour", "more", "rule", "drop", "price", "want", "serve", "throwAway"}) {
            act(x, name);
        }
        Bounds.differs("the state", Bounds.stateTold(x), kept);
        Bounds.write(x, "jar");
        Bounds.due("restore()", x.restore(), 3);
        Bounds.same("the state", Bounds.stateTold(x), kept);
        Bounds.due("count(17), the text is no part of it", x.count(17), 3);
        Bounds.due("count(16), nor is the history", x.count(16), 4);
        Bounds.due("the next jar's number is", x.jar(1), 3);
        Bounds.due("undo()", x.undo(), 3);
        Bounds.due("undo()", x.undo(), 2);
        x.type('=');
        Bounds.due("undo()", x.undo(), 1);
        Bounds.due("count(17), the text is no part of it", x.count(17), 4);
        Bounds.due("restore(), nor is the snapshot", x.restore(), 3);
        Bounds.same("the state", Bounds.stateTold(x), kept);
    }

    /** Terms: "A state is everything": also what follows from its rules, which orders, undo and restore change at once. */
    private static void rulesOfAState() {
        Bounds.terms("A state is everything");
        String[] rules = {"", "a", "b", "c", "ab", "ba", "ac", "bc", "abc"};
        for (String from : rules) {
            for (String to : rules) {
                for (int call = 0; call < BY_RULES.length; call++) {
                    sameByRules(from, to, call);
                }
            }
        }
    }

    private static void sameByRules(String from, String to, int call) {
        long due = BY_RULES[call].on(Bounds.made(x -> shopWith(x, to)));
        String told = "call " + call + " of what depends on rules, " + from + " and then " + to;
        SpiceThrees x = Bounds.made(y -> shopWith(y, from));
        change(x, from, to);
        Bounds.due(told + ", by orders", BY_RULES[call].on(x), due);
        SpiceThrees y = Bounds.made(z -> shopWith(z, to));
        change(y, to, from);
        y.undo();
        Bounds.due(told + ", by undo()", BY_RULES[call].on(y), due);
        SpiceThrees z = Bounds.made(w -> shopWith(w, to));
        z.keep();
        change(z, to, from);
        z.restore();
        Bounds.due(told + ", by restore()", BY_RULES[call].on(z), due);
    }

    /** The rules are told by letters; what follows from them has been asked for. */
    private static void shopWith(SpiceThrees x, String rules) {
        Bounds.jars(1, 3, 9).on(x);
        // served with the jar 1, the jar 2 or none, as c, b or neither is bland
        x.want(3 + 9);
        for (char letter : rules.toCharArray()) {
            x.rule(letter == 'a' ? 1 : letter == 'b' ? 3 : 9);
        }
        x.alike(0, 1, true);
        x.jarOf(2, 5);
    }

    /** By one act. */
    private static void change(SpiceThrees x, String from, String to) {
        StringBuilder orders = new StringBuilder("more=0;more=0");
        for (int rule = 0; rule < from.length(); rule++) {
            orders.append(";drop=0");
        }
        for (char letter : to.toCharArray()) {
            orders.append(";rule=").append(letter);
        }
        Bounds.write(x, orders.toString());
        x.doAll();
    }

    /** Terms: "Where several errors can apply, the order of the @return line is the order of the checks." */
    private static void orderOfErrors() {
        Bounds.terms("Where several errors can apply, the order of the @return line is the order of the checks.");
        Bounds.Calls full = x -> {
            for (int i = 0; i < 12; i++) {
                x.jar(i % 2);
                if (i < 8) {
                    x.rule(i);
                    x.want(i);
                }
            }
        };
        Bounds.refused(Bounds.BAD_VALUE, "jar, BAD_VALUE and FULL", full, x -> x.jar(6561));
        Bounds.refused(Bounds.UNKNOWN, "pour, UNKNOWN and BAD_VALUE", full, x -> x.pour(12, 12));
        Bounds.refused(Bounds.UNKNOWN, "pour, UNKNOWN and NONE", full, x -> x.pour(0, 12));
        Bounds.refused(Bounds.BAD_VALUE, "pour, BAD_VALUE and NONE", full, x -> x.pour(0, 0));
        Bounds.refused(Bounds.BAD_VALUE, "rule, BAD_VALUE and FULL", full, x -> x.rule(6561));
        Bounds.refused(Bounds.UNKNOWN, "price, UNKNOWN and BAD_VALUE", full, x -> x.price(8, 100));
        Bounds.refused(Bounds.BAD_VALUE, "want, BAD_VALUE and FULL", full, x -> x.want(-1));
        Bounds.refused(Bounds.UNKNOWN, "jarOf, UNKNOWN and BAD_VALUE", full, x -> x.jarOf(12, 7));
        Bounds.refused(Bounds.BAD_VALUE, "shelf, BAD_VALUE and NONE", full, x -> x.shelf(12, 4));
        Bounds.refused(Bounds.BAD_VALUE, "fewest, BAD_VALUE and NONE", Bounds.jars(0), x -> x.fewest(5, 2));
        Bounds.refused(Bounds.UNKNOWN, "ifPoured, UNKNOWN and BAD_VALUE", full, x -> x.ifPoured(12, 12));
    }

    /** Terms: "NONE is no error; it is returned only if no error applies." */
    private static void noneIsNoError() {
        Bounds.terms("NONE is no error; it is returned only if no error applies.");
        SpiceThrees x = Bounds.made(Bounds.jars(0));
        Bounds.due("pour(0, 1), an empty jar into none", x.pour(0, 1), Bounds.UNKNOWN);
        Bounds.due("pour(0, 0), an empty jar into itself", x.pour(0, 0), Bounds.BAD_VALUE);
        Bounds.due("shelf(1, 4)", x.shelf(1, 4), Bounds.BAD_VALUE);
        Bounds.due("shelf(1, 3)", x.shelf(1, 3), Bounds.NONE);
        Bounds.due("fewest(5, -1)", x.fewest(5, -1), Bounds.BAD_VALUE);
        Bounds.due("fewest(5, 1)", x.fewest(5, 1), Bounds.NONE);
        Bounds.write(x, "more=0");
        Bounds.due("doAll(), NONE is no error", x.doAll(), 1);
    }

    /** Terms: "A call that returns an error or NONE changes nothing." */
    private static void nothingIsChanged() {
        Bounds.terms("A call that returns an error or NONE changes nothing.");
        Bounds.refused(Bounds.BAD_VALUE, "jar(6561)", READY, x -> x.jar(6561));
        Bounds.refused(Bounds.UNKNOWN, "pour(0, 3)", READY, x -> x.pour(0, 3));
        Bounds.refused(Bounds.UNKNOWN, "pour(3, 0)", READY, x -> x.pour(3, 0));
        Bounds.refused(Bounds.BAD_VALUE, "pour(1, 1)", READY, x -> x.pour(1, 1));
        Bounds.refused(Bounds.UNKNOWN, "more(3)", READY, x -> x.more(3));
        Bounds.refused(Bounds.UNKNOWN, "throwAway(3)", READY, x -> x.throwAway(3));
        Bounds.refused(Bounds.BAD_VALUE, "rule(-1)", READY, x -> x.rule(-1));
        Bounds.refused(Bounds.UNKNOWN, "drop(2)", READY, x -> x.drop(2));
        Bounds.refused(Bounds.UNKNOWN, "price(8, 0)", READY, x -> x.price(8, 0));
        Bounds.refused(Bounds.BAD_VALUE, "price(0, 100)", READY, x -> x.price(0, 100));
        Bounds.refused(Bounds.NONE, "price(0, 1)", READY, x -> x.price(0, 1));
        Bounds.refused(Bounds.BAD_VALUE, "want(6561)", READY, x -> x.want(6561));
        Bounds.refused(Bounds.UNKNOWN, "jarOf(3, 0)", READY, x -> x.jarOf(3, 0));
        Bounds.refused(Bounds.NONE, "ranked(3)", READY, x -> x.ranked(3));
        Bounds.refused(Bounds.UNKNOWN, "ruleOf(2)", READY, x -> x.ruleOf(2));
        Bounds.refused(Bounds.BAD_VALUE, "alike(0, 6561, true)", READY, x -> x.alike(0, 6561, true));
        Bounds.refused(Bounds.NONE, "shelf(3, 0)", READY, x -> x.shelf(3, 0));
        Bounds.refused(Bounds.NONE, "waiting(2)", READY, x -> x.waiting(2));
        Bounds.refused(Bounds.BAD_VALUE, "count(18)", READY, x -> x.count(18));
        Bounds.refused(Bounds.NONE, "fewest(5 + 243, 1)", READY, x -> x.fewest(248, 1));
        Bounds.refused(Bounds.NONE, "needless()", READY, SpiceThrees::needless);
        Bounds.refused(Bounds.UNKNOWN, "ifPoured(0, 3)", READY, x -> x.ifPoured(0, 3));
    }

    /** Terms: the constants */
    private static void constants() {
        Bounds.terms("The constants: `UNKNOWN = -1`: There is no such jar, rule or spice.");
        Bounds.due("UNKNOWN", SpiceThrees.UNKNOWN, -1);
        Bounds.terms("`BAD_VALUE = -2`: Another argument is out of range.");
        Bounds.due("BAD_VALUE", SpiceThrees.BAD_VALUE, -2);
        Bounds.terms("`FULL = -3`: There is no more room.");
        Bounds.due("FULL", SpiceThrees.FULL, -3);
        Bounds.terms("`NONE = -5`: There is no such thing; not an error.");
        Bounds.due("NONE", SpiceThrees.NONE, -5);
        Bounds.terms("Errors are reported by the constants below.");
        SpiceThrees x = new SpiceThrees();
        Bounds.due("drop(0)", x.drop(0), SpiceThrees.UNKNOWN);
        Bounds.due("jar(-1)", x.jar(-1), SpiceThrees.BAD_VALUE);
        Bounds.due("undo()", x.undo(), SpiceThrees.NONE);
    }

    /** Each of the promises 2 to 10, 14 and 17: "This is an act." and no other. */
    private static void actsOfPromises() {
        int[] promises = {2, 3, 4, 5, 6, 7, 8, 9, 10, 17};
        String[] names = {"jar", "pour", "more", "throwAway", "rule", "drop", "price", "want", "serve", "restore"};
        for (int i = 0; i < promises.length; i++) {
            Bounds.promise(promises[i], "This is an act.");
            SpiceThrees x = Bounds.made(READY);
            act(x, names[i]);
            Bounds.due("count(16) after " + names[i], x.count(16), 2);
        }
        Bounds.terms("Each call of a method that is described as an act");
        SpiceThrees x = Bounds.made(READY);
        x.type('a');
        x.fault();
        x.clearText();
        x.keep();
        x.jarOf(0, 6);
        x.ranked(0);
        x.ruleOf(0);
        x.mixOf(5, 4);
        x.together(1, 1);
        x.alike(1, 1, true);
        x.shelf(0, 3);
        x.waiting(0);
        x.lost();
        x.fewest(5, 1);
        x.makes();
        x.needless();
        x.ifPoured(0, 1);
        Bounds.due("count(16) after calls that are no acts", x.count(16), 1);
    }

    // ---- Promise 15: undo

    /** Promise 15: "Removes and restores the latest state of the history." */
    private static void undoRestores() {
        Bounds.promise(15, "Removes and restores the latest state of the history.");
        SpiceThrees x = new SpiceThrees();
        String[] states = new String[10];
        for (int act = 0; act < 10; act++) {
            states[act] = Bounds.stateTold(x);
            if (act < 2) {
                x.jar(5 + act);
            } else {
                act(x, new String[] {"rule", "pour", "rule", "want", "serve", "price", "throwAway", "drop"}[act - 2]);
            }
        }
        Bounds.due("count(16)", x.count(16), 4);
        for (int act = 9; act >= 6; act--) {
            x.undo();
            Bounds.same("the state before the act " + act, Bounds.stateTold(x), states[act]);
        }
        x.undo();
        Bounds.same("the state before the act 6, as no more are kept", Bounds.stateTold(x), states[6]);
    }

    /** Promise 15: "Returns the number of states that are left" */
    private static void undoLeft() {
        Bounds.promise(15, "Returns the number of states that are left");
        for (int acts = 1; acts <= 6; acts++) {
            SpiceThrees x = new SpiceThrees();
            for (int act = 0; act < acts; act++) {
                x.jar(1);
            }
            for (int left = Math.min(acts, 4) - 1; left >= 0; left--) {
                Bounds.due("undo() after " + acts + " acts", x.undo(), left);
                Bounds.due("count(16)", x.count(16), left);
            }
        }
    }

    /** Promise 15: "NONE if the history is empty." */
    private static void undoEmpty() {
        Bounds.promise(15, "NONE if the history is empty.");
        Bounds.refusedOnce(Bounds.NONE, "undo()", NO_CALLS, SpiceThrees::undo);
        Bounds.refusedOnce(Bounds.NONE, "undo() behind an act that was undone", x -> {
            x.jar(1);
            x.undo();
        }, SpiceThrees::undo);
        Bounds.refusedOnce(Bounds.NONE, "undo() behind four acts of six that were undone", x -> {
            Bounds.jars(1, 2, 3, 4, 5, 6).on(x);
            x.keep();
            for (int step = 0; step < 4; step++) {
                x.undo();
            }
        }, SpiceThrees::undo);
        SpiceThrees x = new SpiceThrees();
        x.keep();
        x.type('a');
        Bounds.due("undo(), as none of these is an act", x.undo(), Bounds.NONE);
        x.jar(1);
        Bounds.due("undo(), one state", x.undo(), 0);
        Bounds.due("undo(), none any more", x.undo(), Bounds.NONE);
    }

    // ---- Promise 16: keep

    /** Promise 16: "Takes a snapshot of the state, in place of the one that was." */
    private static void keepReplaces() {
        Bounds.promise(16, "Takes a snapshot of the state, in place of the one that was.");
        SpiceThrees x = Bounds.made(READY);
        String[] kept = new String[ACTS.length];
        for (int act = 0; act < ACTS.length - 1; act++) {
            x.keep();
            kept[act] = Bounds.stateTold(x);
            act(x, ACTS[act]);
            Bounds.differs("the state after " + ACTS[act], Bounds.stateTold(x), kept[act]);
            x.restore();
            Bounds.same("the state of the snapshot before " + ACTS[act], Bounds.stateTold(x), kept[act]);
            x.undo();
            if (act % 3 == 2) {
                x = Bounds.made(READY);
            }
        }
        SpiceThrees y = new SpiceThrees();
        y.keep();
        y.jar(1);
        y.keep();
        y.keep();
        y.throwAway(0);
        Bounds.due("restore() of the latest snapshot", y.restore(), 1);
        Bounds.due("count(16), keep is no act", y.count(16), 3);
    }

    /** Promise 16: "Returns how many jars there are." */
    private static void keepJars() {
        Bounds.promise(16, "Returns how many jars there are.");
        SpiceThrees x = new SpiceThrees();
        Bounds.due("keep() without jars", x.keep(), 0);
        for (int jars = 1; jars <= 12; jars++) {
            x.jar(0);
            Bounds.due("keep()", x.keep(), jars);
        }
        x.jar(0);
        Bounds.due("keep(), as no more come", x.keep(), 12);
        x.throwAway(5);
        Bounds.due("keep()", x.keep(), 11);
    }

    // ---- Promise 17: restore

    /** Promise 17: "Restores the state of the snapshot, which stays." */
    private static void restoreStays() {
        Bounds.promise(17, "Restores the state of the snapshot, which stays.");
        SpiceThrees x = Bounds.made(READY);
        String kept = Bounds.stateTold(x);
        for (String name : ACTS) {
            act(x, name);
            x.restore();
            Bounds.same("the state after " + name + " and restore()", Bounds.stateTold(x), kept);
            if (name.equals("more") || name.equals("drop")) {
                x = Bounds.made(READY);
            }
        }
        // acts behind restore() don't change the snapshot, nor does undo()
        SpiceThrees y = Bounds.made(Bounds.jars(1, 3));
        y.keep();
        y.restore();
        y.more(0);
        y.rule(5);
        y.undo();
        y.undo();
        y.undo();
        y.undo();
        Bounds.due("restore()", y.restore(), 2);
        Bounds.same("the jars", Bounds.jarsTold(y), "0:1 1:3");
        Bounds.due("the next jar", y.jar(9), 2);
        Bounds.due("restore()", y.restore(), 2);
        Bounds.due("the next jar", y.jar(9), 2);
    }

    /** Promise 17: "Returns how many jars there are then" */
    private static void restoreJars() {
        Bounds.promise(17, "Returns how many jars there are then");
        for (int jars = 0; jars <= 12; jars++) {
            SpiceThrees x = new SpiceThrees();
            for (int number = 0; number < jars; number++) {
                x.jar(number);
            }
            x.keep();
            x.throwAway(0);
            x.jar(5);
            x.jar(6);
            Bounds.due("restore() of " + jars + " jars", x.restore(), jars);
            Bounds.due("count(0)", x.count(0), jars);
        }
    }

    /** Promise 17: "NONE if there is no snapshot." */
    private static void restoreNone() {
        Bounds.promise(17, "NONE if there is no snapshot.");
        Bounds.refusedOnce(Bounds.NONE, "restore(), a new shop", NO_CALLS, SpiceThrees::restore);
        Bounds.refusedOnce(Bounds.NONE, "restore(), some jars", Bounds.jars(1, 2, 3, 4, 5, 6), SpiceThrees::restore);
        SpiceThrees x = new SpiceThrees();
        x.keep();
        Bounds.due("restore() of an empty shop", x.restore(), 0);
        Bounds.due("undo()", x.undo(), 0);
        Bounds.due("restore(), the snapshot stays", x.restore(), 0);
    }
}

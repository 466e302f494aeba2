import java.util.Arrays;

/** The sentences of "What it is" and "Terms" on calls, spices, mixes, jars, tastes, customers and accounts. */
final class TermBounds {
    private TermBounds() {
    }

    static void test() {
        usedFor512Calls();
        eightSpices();
        prices();
        unitsOfSpices();
        threesCancel();
        mixesAsNumbers();
        mixesTogether();
        emptyMix();
        twelveJars();
        jarNumbers();
        jarsEver();
        soldNumbersAreGone();
        eightRules();
        ruleNumbers();
        blandMixes();
        likeMixes();
        tastes();
        strength();
        priceOfMix();
        cheapestMix();
        eightCustomers();
        wantedTastes();
        lowestJarIsSold();
        halfOfThePriceMore();
        unitsCounted();
        coinsCounted();
    }

    // ---- how long an object is used

    /** What it is: "An object is used for at most 512 calls after it has been made; what later calls answer is free." */
    private static void usedFor512Calls() {
        Bounds.whole("An object is used for at most 512 calls after it has been made; what later calls answer is free.");
        SpiceThrees x = new SpiceThrees();
        for (int call = 1; call <= 510; call++) {
            Bounds.due("call " + call + ", price", x.price(call % 8, 50 + call / 8 % 2), call < 8 ? call % 8 + 1 : call == 8 ? 1 : 51 - call / 8 % 2);
        }
        Bounds.due("call 511, jar(6560)", x.jar(6560), 0);
        Bounds.due("call 512, count(12)", x.count(12), 2 * (7 * 51 + 50));
        // later answers are free, but no call throws
        for (int call = 513; call < 2000; call++) {
            x.price(call % 8, 50 + call / 8 % 2);
            x.jar(call);
            x.want(call);
            x.rule(call);
            x.type('a');
            x.undo();
        }
        mostUnits();
    }

    /** The most units that 512 calls can buy: 200 jars by texts of 28 letters with nine units each. */
    private static void mostUnits() {
        SpiceThrees x = new SpiceThrees();
        x.price(7, 99);
        Bounds.write(x, "jar=h9h9h9h9h9h9h9h9h9h9h9h9h9h9h9h9h9h9h9h9h9h9h9h9h9h9h9h9");
        for (int number = 0; number < 200; number++) {
            Bounds.due("doAll()", x.doAll(), 1);
            Bounds.due("throwAway(" + number + ")", x.throwAway(number), 0);
        }
        Bounds.due("count(7)", x.count(7), 200 * 252);
        Bounds.due("count(8)", x.count(8), 200 * 252);
        Bounds.due("count(12)", x.count(12), 200 * 252 * 99);
        Bounds.due("lost()", x.lost(), 1.0);
    }

    // ---- spices and mixes

    /** Terms: "There are 8 spices, 0 to 7, with the letters a to h" */
    private static void eightSpices() {
        Bounds.terms("There are 8 spices, 0 to 7, with the letters a to h");
        int[] ends = {0, 1, 6, 7};
        Bounds.taken(ends, "price(_, 50)", x -> { }, (x, spice) -> x.price(spice, 50));
        int[] outside = {-1, 8, -2, 9, 256, 65536, Integer.MIN_VALUE, Integer.MAX_VALUE};
        Bounds.refusedFor(outside, Bounds.UNKNOWN, "price(_, 50)", x -> { }, (x, spice) -> x.price(spice, 50));
        char[] letters = {'a', 'b', 'g', 'h'};
        int[] units = {1, 3, 729, 2187};
        for (int end = 0; end < 4; end++) {
            SpiceThrees x = new SpiceThrees();
            Bounds.write(x, "jar=" + letters[end]);
            Bounds.due("doAll() of the letter " + letters[end], x.doAll(), 1);
            Bounds.due("jarOf(0, 0) of the letter " + letters[end], x.jarOf(0, 0), units[end]);
        }
        for (char letter : new char[] {'`', 'i', 'A', 'H', (char) ('a' + 256), (char) ('h' + 256)}) {
            SpiceThrees x = new SpiceThrees();
            Bounds.write(x, "jar=" + letter);
            Bounds.due("fault() of the letter " + (int) letter, x.fault(), 4);
            Bounds.due("doAll() of the letter " + (int) letter, x.doAll(), -104);
            Bounds.due("count(0)", x.count(0), 0);
        }
    }

    /** Terms: "each has a price (0 to 99; at first one more than its number)." */
    private static void prices() {
        Bounds.terms("each has a price (0 to 99; at first one more than its number).");
        SpiceThrees x = new SpiceThrees();
        Bounds.same("the prices at first", Bounds.pricesTold(x), "1 2 3 4 5 6 7 8");
        int unit = 1;
        for (int spice = 0; spice < 8; spice++) {
            for (int price : new int[] {0, 1, 98, 99}) {
                int answer = x.price(spice, price);
                Bounds.due("whether price(" + spice + ", " + price + ") is taken", answer == Bounds.BAD_VALUE ? 0 : 1, 1);
                Bounds.due("mixOf(" + unit + ", 1)", x.mixOf(unit, 1), price);
                Bounds.due("price(" + spice + ", -1)", x.price(spice, -1), Bounds.BAD_VALUE);
                Bounds.due("price(" + spice + ", 100)", x.price(spice, 100), Bounds.BAD_VALUE);
                Bounds.due("mixOf(" + unit + ", 1)", x.mixOf(unit, 1), price);
            }
            unit *= 3;
        }
    }

    /** Terms: "A mix has of each spice none, one or two units." */
    private static void unitsOfSpices() {
        Bounds.terms("A mix has of each spice none, one or two units.");
        SpiceThrees x = new SpiceThrees();
        int unit = 1;
        for (int spice = 0; spice < 8; spice++) {
            Bounds.due("units of " + unit, x.mixOf(unit, 0), 1);
            Bounds.due("units of " + 2 * unit, x.mixOf(2 * unit, 0), 2);
            // three units can't be told: their number has one unit of the next spice
            Bounds.due("units of " + 3 * unit, x.mixOf(3 * unit, 0), spice == 7 ? Bounds.BAD_VALUE : 1);
            Bounds.due("price of " + 2 * unit, x.mixOf(2 * unit, 1), 2 * (spice + 1));
            unit *= 3;
        }
    }

    /** Terms: "Three units of one spice in a mix cancel each other: they leave none." */
    private static void threesCancel() {
        Bounds.terms("Three units of one spice in a mix cancel each other: they leave none.");
        int unit = 1;
        for (int spice = 0; spice < 8; spice++) {
            pouredUnits(unit, 1, 1, 2, 0);
            pouredUnits(unit, 1, 2, 0, 3);
            pouredUnits(unit, 2, 1, 0, 3);
            pouredUnits(unit, 2, 2, 1, 3);
            unit *= 3;
        }
    }

    private static void pouredUnits(int unit, int one, int other, int left, int cancel) {
        String told = one + " units on " + other + " of the spice with the unit " + unit;
        SpiceThrees x = Bounds.made(Bounds.jars(one * unit, other * unit));
        Bounds.due("together, " + told, x.together(one * unit, other * unit), left * unit);
        Bounds.due("pour, " + told, x.pour(0, 1), cancel);
        Bounds.due("jarOf(1, 0), " + told, x.jarOf(1, 0), left * unit);
        Bounds.due("jarOf(1, 1), " + told, x.jarOf(1, 1), left);
        Bounds.due("count(8), " + told, x.count(8), cancel);
    }

    /** Terms: "A mix is told as a number, 0 to 6560" */
    private static void mixesAsNumbers() {
        Bounds.terms("A mix is told as a number, 0 to 6560: the units of the spice 0, 3 times those of the spice 1, "
            + "9 times those of the spice 2 and so on.");
        SpiceThrees x = new SpiceThrees();
        int[] units = {0, 1, 15, 16};
        int[] prices = {0, 1, 71, 72};
        for (int end = 0; end < 4; end++) {
            int mix = Bounds.END_MIXES[end];
            Bounds.due("mixOf(" + mix + ", 0)", x.mixOf(mix, 0), units[end]);
            Bounds.due("mixOf(" + mix + ", 1)", x.mixOf(mix, 1), prices[end]);
            Bounds.due("jar(" + mix + ")", x.jar(mix), end);
            Bounds.due("jarOf(" + end + ", 0)", x.jarOf(end, 0), mix);
        }
        Bounds.refusedFor(Bounds.NO_MIXES, Bounds.BAD_VALUE, "mixOf(_, 0)", Bounds.jars(5), (y, mix) -> y.mixOf(mix, 0));
        Bounds.due("mixOf(1 + 3 + 9 + 27, 1)", x.mixOf(40, 1), 1 + 2 + 3 + 4);
        Bounds.due("mixOf(81 + 243 + 729 + 2187, 1)", x.mixOf(3240, 1), 5 + 6 + 7 + 8);
    }

    /** Terms: "Two mixes together are the mix of all their units, of which threes cancel." */
    private static void mixesTogether() {
        Bounds.terms("Two mixes together are the mix of all their units, of which threes cancel.");
        SpiceThrees x = new SpiceThrees();
        Bounds.due("together(6560, 6560)", x.together(6560, 6560), 3280);
        Bounds.due("together(3280, 3280)", x.together(3280, 3280), 6560);
        Bounds.due("together(6560, 3280)", x.together(6560, 3280), 0);
        Bounds.due("together(6560, 0)", x.together(6560, 0), 6560);
        Bounds.due("together(6559, 1)", x.together(6559, 1), 6560);
        // a three that cancels leaves nothing, also not of the next spice
        Bounds.due("together(6560, 1)", x.together(6560, 1), 6558);
        Bounds.due("together(80, 1)", x.together(80, 1), 78);
        Bounds.due("together(4374, 2187)", x.together(4374, 2187), 0);
        Bounds.due("together(4374, 4374)", x.together(4374, 4374), 2187);
    }

    /** Terms: "The empty mix is 0." */
    private static void emptyMix() {
        Bounds.terms("The empty mix is 0.");
        SpiceThrees x = Bounds.made(Bounds.jars(0, 1));
        Bounds.due("mixOf(0, 0)", x.mixOf(0, 0), 0);
        Bounds.due("mixOf(0, 1)", x.mixOf(0, 1), 0);
        Bounds.due("more of an empty jar", x.more(0), Bounds.NONE);
        Bounds.due("pour of an empty jar", x.pour(0, 1), Bounds.NONE);
        Bounds.due("more of a jar of one unit", x.more(1), 2);
        Bounds.due("pour of a jar of two units", x.pour(1, 0), 0);
        Bounds.due("jarOf(1, 0), poured out", x.jarOf(1, 0), 0);
    }

    // ---- jars

    /** Terms: "There are at most 12 jars at a time" */
    private static void twelveJars() {
        Bounds.terms("There are at most 12 jars at a time");
        SpiceThrees x = Bounds.made(Bounds.jars(1, 2, 3, 4, 5, 6, 7, 8, 9, 10));
        Bounds.due("the eleventh jar", x.jar(11), 10);
        Bounds.due("the twelfth jar", x.jar(12), 11);
        Bounds.due("the thirteenth jar", x.jar(13), Bounds.FULL);
        Bounds.due("count(0)", x.count(0), 12);
        Bounds.due("throwAway(11)", x.throwAway(11), 2);
        Bounds.due("a jar where one left", x.jar(14), 12);
        Bounds.due("the thirteenth jar", x.jar(13), Bounds.FULL);
        Bounds.same("the jars", Bounds.jarsTold(x), "0:1 1:2 2:3 3:4 4:5 5:6 6:7 7:8 8:9 9:10 10:11 12:14");
    }

    /** Terms: "numbered from 0 in the order in which they came" */
    private static void jarNumbers() {
        Bounds.terms("numbered from 0 in the order in which they came");
        SpiceThrees x = new SpiceThrees();
        Bounds.due("jarOf(0, 0) before a jar came", x.jarOf(0, 0), Bounds.UNKNOWN);
        Bounds.due("the first jar", x.jar(6560), 0);
        Bounds.due("jarOf(1, 0) before it came", x.jarOf(1, 0), Bounds.UNKNOWN);
        Bounds.due("the second jar", x.jar(0), 1);
        Bounds.due("a jar that can't come", x.jar(6561), Bounds.BAD_VALUE);
        Bounds.due("the third jar", x.jar(5), 2);
        Bounds.same("the jars", Bounds.jarsTold(x), "0:6560 1:0 2:5");
    }

    /** Terms: "(at most 200 ever, never given again)" */
    private static void jarsEver() {
        Bounds.terms("(at most 200 ever, never given again)");
        SpiceThrees x = new SpiceThrees();
        for (int number = 0; number < 198; number++) {
            x.jar(1);
            x.throwAway(number);
        }
        Bounds.due("the jar 198", x.jar(3), 198);
        Bounds.due("the jar 199", x.jar(9), 199);
        Bounds.due("a jar behind the 200th", x.jar(1), Bounds.FULL);
        Bounds.same("the jars", Bounds.jarsTold(x), "198:3 199:9");
        Bounds.due("throwAway(199)", x.throwAway(199), 1);
        Bounds.due("throwAway(198)", x.throwAway(198), 1);
        Bounds.due("a jar behind the 200th, without jars", x.jar(1), Bounds.FULL);
        Bounds.due("jarOf(199, 0)", x.jarOf(199, 0), Bounds.UNKNOWN);
        Bounds.due("jarOf(200, 0)", x.jarOf(200, 0), Bounds.UNKNOWN);
        Bounds.due("count(7)", x.count(7), 200);
    }

    /** Terms: "never given again" */
    private static void soldNumbersAreGone() {
        Bounds.terms("never given again");
        SpiceThrees x = Bounds.made(Bounds.jars(1, 3));
        x.want(3);
        Bounds.due("serve()", x.serve(), 3);
        Bounds.due("a jar behind one that was sold", x.jar(9), 2);
        Bounds.due("throwAway(2)", x.throwAway(2), 1);
        Bounds.due("a jar behind one that was thrown away", x.jar(27), 3);
        Bounds.due("jarOf(1, 0)", x.jarOf(1, 0), Bounds.UNKNOWN);
        Bounds.due("jarOf(2, 0)", x.jarOf(2, 0), Bounds.UNKNOWN);
        Bounds.same("the jars", Bounds.jarsTold(x), "0:1 3:27");
    }

    // ---- tastes

    /** Terms: "There are rules, at most 8 at a time" */
    private static void eightRules() {
        Bounds.terms("There are rules, at most 8 at a time");
        SpiceThrees x = new SpiceThrees();
        for (int rule = 0; rule < 6; rule++) {
            x.rule(rule + 1);
        }
        Bounds.due("the seventh rule", x.rule(6560), 3);
        Bounds.due("the eighth rule", x.rule(0), 3);
        Bounds.due("the ninth rule", x.rule(27), Bounds.FULL);
        Bounds.due("count(1)", x.count(1), 8);
        Bounds.due("count(2)", x.count(2), 3);
        Bounds.due("drop(7)", x.drop(7), 3);
        Bounds.due("a rule where one left", x.rule(27), 4);
        Bounds.same("the rules", Bounds.rulesTold(x), "1 2 3 4 5 6 6560 27");
    }

    /** Terms: "numbered from 0 in the order in which they came (when one is dropped, those behind it move up)" */
    private static void ruleNumbers() {
        Bounds.terms("numbered from 0 in the order in which they came (when one is dropped, those behind it move up): mixes that are bland.");
        SpiceThrees x = new SpiceThrees();
        for (int rule = 0; rule < 8; rule++) {
            Bounds.due("ruleOf(" + rule + ") before it came", x.ruleOf(rule), Bounds.UNKNOWN);
            x.rule(10 + rule);
            Bounds.due("ruleOf(" + rule + ")", x.ruleOf(rule), 10 + rule);
        }
        x.drop(7);
        Bounds.same("the rules, the last dropped", Bounds.rulesTold(x), "10 11 12 13 14 15 16");
        x.drop(0);
        Bounds.same("the rules, the first dropped", Bounds.rulesTold(x), "11 12 13 14 15 16");
        x.drop(1);
        Bounds.same("the rules, the second dropped", Bounds.rulesTold(x), "11 13 14 15 16");
        x.drop(3);
        Bounds.same("the rules, the last but one dropped", Bounds.rulesTold(x), "11 13 14 16");
        for (int rule = 3; rule >= 0; rule--) {
            x.drop(0);
        }
        Bounds.same("the rules, all dropped", Bounds.rulesTold(x), "");
        Bounds.due("count(3)", x.count(3), 1);
    }

    /** Terms: "Bland are all mixes that are made of rules together, each taken any number of times, also none" */
    private static void blandMixes() {
        Bounds.terms("Bland are all mixes that are made of rules together, each taken any number of times, also none (so the empty mix is bland).");
        Bounds.same("the bland mixes without rules", blandBelow(500), "0");
        Bounds.same("the bland mixes of an empty rule", blandBelow(490, 0), "0");
        Bounds.same("the bland mixes of one rule, taken none, once, twice", blandBelow(490, 5), "0 5 7");
        Bounds.same("the bland mixes of two rules", blandBelow(490, 5, 9), "0 5 7 9 14 16 18 23 25");
        Bounds.same("the bland mixes of two rules of which one follows", blandBelow(490, 5, 7), "0 5 7");
        Bounds.due("mixOf(6560, 3) of its own rule", Bounds.made(x -> x.rule(6560)).mixOf(6560, 3), 1);
        Bounds.due("mixOf(3280, 3) of twice the rule", Bounds.made(x -> x.rule(6560)).mixOf(3280, 3), 1);
        Bounds.due("mixOf(6559, 3) beside the rule", Bounds.made(x -> x.rule(6560)).mixOf(6559, 3), 0);
    }

    private static String blandBelow(int end, int... rules) {
        SpiceThrees x = new SpiceThrees();
        for (int rule : rules) {
            x.rule(rule);
        }
        StringBuilder bland = new StringBuilder();
        for (int mix = 0; mix < end; mix++) {
            if (x.mixOf(mix, 3) == 1) {
                bland.append(mix == 0 ? "" : " ").append(mix);
            }
        }
        return bland.toString();
    }

    /** Terms: "Two mixes taste alike if one of them and some bland mix together are the other one." */
    private static void likeMixes() {
        Bounds.terms("Two mixes taste alike if one of them and some bland mix together are the other one.");
        for (boolean all : new boolean[] {true, false}) {
            SpiceThrees x = new SpiceThrees();
            Bounds.due("alike(0, 0), no rules", x.alike(0, 0, all), 1);
            Bounds.due("alike(6560, 6560), no rules", x.alike(6560, 6560, all), 1);
            Bounds.due("alike(0, 1), no rules", x.alike(0, 1, all), 0);
            Bounds.due("alike(6560, 6559), no rules", x.alike(6560, 6559, all), 0);
            x.rule(6560);
            Bounds.due("alike(0, 6560)", x.alike(0, 6560, all), 1);
            Bounds.due("alike(6560, 0)", x.alike(6560, 0, all), 1);
            Bounds.due("alike(6560, 3280), by the rule taken once", x.alike(6560, 3280, all), 1);
            Bounds.due("alike(3280, 6560), by the rule taken twice", x.alike(3280, 6560, all), 1);
            Bounds.due("alike(3280, 6559)", x.alike(3280, 6559, all), 0);
            Bounds.due("alike(0, 6559)", x.alike(0, 6559, all), 0);
        }
    }

    /** Terms: "The taste of a mix is told as the least number of all mixes that taste like it." */
    private static void tastes() {
        Bounds.terms("The taste of a mix is told as the least number of all mixes that taste like it.");
        int[][] rules = {{}, {1}, {2187}, {6560}, {6560, 6559}, {4374, 2187 + 1}, {3 + 1, 9 + 3, 27 + 9},
            {1, 3, 9, 27, 81, 243, 729}, {3, 9, 27, 81, 243, 729, 2187}, {1, 3, 9, 27, 81, 243, 729, 2187}};
        for (int[] some : rules) {
            int[] least = leastLike(some);
            SpiceThrees x = new SpiceThrees();
            for (int rule : some) {
                x.rule(rule);
            }
            for (int mix = 0; mix < 6561; mix += mix < 20 || mix > 6540 ? 1 : 37) {
                Bounds.due("mixOf(" + mix + ", 2) with the rules " + Arrays.toString(some), x.mixOf(mix, 2), least[mix]);
            }
        }
    }

    /** The least number like each mix, by spreading from every mix in the order of their numbers. */
    private static int[] leastLike(int... rules) {
        int[] least = new int[6561];
        Arrays.fill(least, -1);
        int[] open = new int[6561];
        for (int start = 0; start < 6561; start++) {
            int size = 0;
            if (least[start] < 0) {
                least[start] = start;
                open[size++] = start;
            }
            while (size > 0) {
                int mix = open[--size];
                for (int rule : rules) {
                    int like = sum(mix, rule);
                    if (least[like] < 0) {
                        least[like] = start;
                        open[size++] = like;
                    }
                }
            }
        }
        return least;
    }

    private static int sum(int one, int other) {
        int mix = 0;
        for (int unit = 1; unit < 6561; unit *= 3) {
            mix += (one / unit + other / unit) % 3 * unit;
        }
        return mix;
    }

    /** Terms: "The strength of the rules is the number r for which there are 3 to the power of r bland mixes." */
    private static void strength() {
        Bounds.terms("The strength of the rules is the number r for which there are 3 to the power of r bland mixes.");
        SpiceThrees x = new SpiceThrees();
        Bounds.due("count(2) without rules", x.count(2), 0);
        Bounds.due("count(3) without rules", x.count(3), 1);
        Bounds.due("rule(0), a rule that says nothing", x.rule(0), 0);
        Bounds.due("count(3)", x.count(3), 1);
        x.drop(0);
        int bland = 1;
        int unit = 1;
        for (int spice = 0; spice < 8; spice++) {
            Bounds.due("rule " + spice, x.rule(unit * 2 + (spice < 7 ? unit * 3 : 0)), spice + 1);
            unit *= 3;
            bland *= 3;
            Bounds.due("count(2)", x.count(2), spice + 1);
            Bounds.due("count(3)", x.count(3), bland);
            Bounds.due("count(4)", x.count(4), 6561 / bland);
        }
        Bounds.due("drop(3)", x.drop(3), 7);
        Bounds.due("count(3)", x.count(3), 2187);
        Bounds.due("a rule that says what others say", x.rule(2 + 3), 7);
        for (int end = 0; end <= 8; end++) {
            strengthIsOfBland(end);
        }
    }

    private static void strengthIsOfBland(int rules) {
        SpiceThrees x = new SpiceThrees();
        int bland = 0;
        for (int mix = 0; mix < 6561; mix++) {
            if (mix % 400 == 0) {
                x = new SpiceThrees();
                for (int rule = 0; rule < rules; rule++) {
                    x.rule((rule + 1) * (rule + 2) * 91 % 6561);
                }
            }
            bland += x.mixOf(mix, 3);
        }
        Bounds.due("count(3) of " + rules + " rules", x.count(3), bland);
        int power = 1;
        for (int step = 0; step < x.count(2); step++) {
            power *= 3;
        }
        Bounds.due("3 to the power of count(2) of " + rules + " rules", power, bland);
    }

    /** Terms: "The price of a mix is the sum of its units, each by the price of its spice." */
    private static void priceOfMix() {
        Bounds.terms("The price of a mix is the sum of its units, each by the price of its spice.");
        SpiceThrees x = new SpiceThrees();
        Bounds.due("mixOf(6560, 1)", x.mixOf(6560, 1), 72);
        for (int spice = 0; spice < 8; spice++) {
            x.price(spice, 99);
        }
        Bounds.due("mixOf(6560, 1), the most", x.mixOf(6560, 1), 16 * 99);
        Bounds.due("mixOf(6559, 1)", x.mixOf(6559, 1), 15 * 99);
        Bounds.due("mixOf(0, 1)", x.mixOf(0, 1), 0);
        for (int spice = 0; spice < 7; spice++) {
            x.price(spice, 0);
        }
        Bounds.due("mixOf(6560, 1)", x.mixOf(6560, 1), 2 * 99);
        x.price(7, 0);
        Bounds.due("mixOf(6560, 1), the least", x.mixOf(6560, 1), 0);
    }

    /** Terms: "The cheapest mix of a taste is that with the least price of all mixes of the taste, of several ..." */
    private static void cheapestMix() {
        Bounds.terms("The cheapest mix of a taste is that with the least price of all mixes of the taste, of several that with the least number.");
        SpiceThrees x = new SpiceThrees();
        // 2187 and two units of a are alike
        x.rule(2187 + 1);
        x.price(7, 3);
        Bounds.due("mixOf(2187, 4), three coins against two", x.mixOf(2187, 4), 2);
        x.price(7, 2);
        Bounds.due("mixOf(2187, 4), as dear as two units of a", x.mixOf(2187, 4), 2);
        Bounds.due("mixOf(2, 4), as dear as one unit of h", x.mixOf(2, 4), 2);
        x.price(7, 1);
        Bounds.due("mixOf(2187, 4), one coin less", x.mixOf(2187, 4), 2187);
        Bounds.due("mixOf(2, 4), the greater number is cheaper", x.mixOf(2, 4), 2187);
        x.price(0, 0);
        x.price(7, 0);
        Bounds.due("mixOf(2187, 4), all for nothing", x.mixOf(2187, 4), 2);
        Bounds.due("mixOf(2188, 4), bland", x.mixOf(2188, 4), 0);
        Bounds.due("mixOf(6560, 4), the least number of three", x.mixOf(6560, 4), 6560 - 4374 - 2);
    }

    // ---- customers

    /** Terms: "Customers wait in a row, at most 8" */
    private static void eightCustomers() {
        Bounds.terms("Customers wait in a row, at most 8");
        SpiceThrees x = new SpiceThrees();
        for (int mix = 1; mix <= 6; mix++) {
            x.want(mix);
        }
        Bounds.due("the seventh customer", x.want(7), 7);
        Bounds.due("the eighth customer", x.want(8), 8);
        Bounds.due("the ninth customer", x.want(9), Bounds.FULL);
        Bounds.same("the customers", Bounds.waitingTold(x), "1 2 3 4 5 6 7 8");
        Bounds.due("serve()", x.serve(), 0);
        Bounds.due("a customer where one went", x.want(9), 8);
        Bounds.same("the customers", Bounds.waitingTold(x), "2 3 4 5 6 7 8 9");
    }

    /** Terms: "each for a taste (told by any mix of it, by the rules as they are when it is served)." */
    private static void wantedTastes() {
        Bounds.terms("each for a taste (told by any mix of it, by the rules as they are when it is served).");
        SpiceThrees x = Bounds.made(Bounds.jars(2));
        x.want(1);
        x.rule(1);
        Bounds.due("serve(), alike by a rule that came behind the customer", x.serve(), 3);
        SpiceThrees y = Bounds.made(Bounds.jars(2));
        y.rule(1);
        y.want(1);
        y.drop(0);
        Bounds.due("serve(), not alike any more", y.serve(), 0);
        Bounds.due("count(15)", y.count(15), 1);
        SpiceThrees z = Bounds.made(Bounds.jars(6560));
        z.rule(6560);
        z.want(3280);
        Bounds.due("serve(), told by another mix of the taste", z.serve(), 72 + 36);
    }

    /** Terms: "The first one is served with the jar with the lowest number that tastes so" */
    private static void lowestJarIsSold() {
        Bounds.terms("The first one is served with the jar with the lowest number that tastes so");
        SpiceThrees x = Bounds.made(Bounds.jars(1, 3, 9, 3, 3));
        x.want(3);
        x.want(9);
        Bounds.due("serve()", x.serve(), 3);
        Bounds.same("the jars", Bounds.jarsTold(x), "0:1 2:9 3:3 4:3");
        Bounds.same("the customers", Bounds.waitingTold(x), "9");
        x.rule(9);
        x.want(0);
        x.jar(0);
        Bounds.due("serve(), the jar 2, though the jar 5 is cheaper and wanted so", x.serve(), 4);
        Bounds.same("the jars", Bounds.jarsTold(x), "0:1 3:3 4:3 5:0");
    }

    /** Terms: "the jar is sold for its price and half of it (rounded down) more, and is there no more." */
    private static void halfOfThePriceMore() {
        Bounds.terms("the jar is sold for its price and half of it (rounded down) more, and is there no more.");
        int[] prices = {0, 1, 2, 3, 4, 5, 98, 99};
        int[] coins = {0, 1, 3, 4, 6, 7, 147, 148};
        for (int i = 0; i < prices.length; i++) {
            SpiceThrees x = Bounds.made(Bounds.jars(9, 1));
            x.price(0, prices[i]);
            x.want(1);
            Bounds.due("serve() of the price " + prices[i], x.serve(), coins[i]);
            Bounds.due("count(13)", x.count(13), coins[i]);
            Bounds.due("count(14)", x.count(14), 1);
            Bounds.due("count(9)", x.count(9), 1);
            Bounds.due("jarOf(1, 0)", x.jarOf(1, 0), Bounds.UNKNOWN);
            Bounds.due("count(0)", x.count(0), 1);
        }
        SpiceThrees x = Bounds.made(Bounds.jars(6560));
        for (int spice = 0; spice < 8; spice++) {
            x.price(spice, 99);
        }
        x.want(6560);
        Bounds.due("serve() of the greatest price", x.serve(), 1584 + 792);
    }

    // ---- accounts

    /** Terms: "Units are counted: those bought (...), those that cancelled, those sold, and those thrown away." */
    private static void unitsCounted() {
        Bounds.terms("Units are counted: those bought (as a jar comes, also those that cancel at once, and as a jar is bought once more), "
            + "those that cancelled, those sold, and those thrown away.");
        SpiceThrees x = new SpiceThrees();
        Bounds.same("the accounts at first", Bounds.accountsTold(x), "0 0 0 0 0 0 0 0 0");
        x.jar(0);
        Bounds.same("the accounts after an empty jar", Bounds.accountsTold(x), "0 0 0 0 0 0 0 0 0");
        x.jar(1);
        Bounds.same("the accounts after one unit", Bounds.accountsTold(x), "1 0 0 0 1 1 0 0 0");
        Bounds.write(x, "jar=a3");
        x.doAll();
        Bounds.same("the accounts after three that cancel at once", Bounds.accountsTold(x), "4 3 0 0 1 4 0 0 0");
        Bounds.write(x, "jar=a2;jar=a4");
        x.doAll();
        Bounds.same("the accounts after two and four units", Bounds.accountsTold(x), "10 6 0 0 4 10 0 0 0");
        x.more(3);
        Bounds.same("the accounts after two units once more", Bounds.accountsTold(x), "12 9 0 0 3 12 0 0 0");
        x.pour(4, 1);
        Bounds.same("the accounts after one on one unit", Bounds.accountsTold(x), "12 9 0 0 3 12 0 0 0");
        x.pour(3, 1);
        Bounds.same("the accounts after one on two units", Bounds.accountsTold(x), "12 12 0 0 0 12 0 0 0");
        x.jar(6560);
        x.throwAway(5);
        Bounds.same("the accounts after sixteen units thrown away", Bounds.accountsTold(x), "28 12 0 16 0 84 0 0 0");
        x.throwAway(1);
        Bounds.same("the accounts after an empty jar thrown away", Bounds.accountsTold(x), "28 12 0 16 0 84 0 0 0");
        x.jar(2 + 6);
        x.want(8);
        x.serve();
        Bounds.same("the accounts after four units sold", Bounds.accountsTold(x), "32 12 4 16 0 90 9 1 0");
        x.want(0);
        x.serve();
        Bounds.same("the accounts after an empty jar sold", Bounds.accountsTold(x), "32 12 4 16 0 90 9 2 0");
        x.want(1);
        x.serve();
        Bounds.same("the accounts after a customer let go", Bounds.accountsTold(x), "32 12 4 16 0 90 9 2 1");
    }

    /** Terms: "Coins are counted: those paid for all units bought, and those taken." */
    private static void coinsCounted() {
        Bounds.terms("Coins are counted: those paid for all units bought, and those taken.");
        SpiceThrees x = new SpiceThrees();
        x.price(0, 0);
        x.jar(2);
        Bounds.due("count(12), for nothing", x.count(12), 0);
        x.price(0, 99);
        x.jar(2);
        Bounds.due("count(12), by the price as it is then", x.count(12), 198);
        x.price(0, 10);
        x.more(1);
        Bounds.due("count(12), by the price as it is then", x.count(12), 218);
        Bounds.write(x, "jar=a9");
        x.doAll();
        Bounds.due("count(12), also units that cancel", x.count(12), 308);
        x.want(2);
        x.serve();
        Bounds.due("count(13)", x.count(13), 30);
        Bounds.due("count(12), as before", x.count(12), 308);
        x.throwAway(1);
        Bounds.due("count(12), as before", x.count(12), 308);
        Bounds.due("count(13), as before", x.count(13), 30);
    }
}

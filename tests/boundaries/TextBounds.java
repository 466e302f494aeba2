/** The sentences on texts, and those of the promises 11 to 14: type, clearText, fault, doAll. */
final class TextBounds {
    private static final String[] WORDS = {"jar", "rule", "want", "drop", "pour", "more"};
    private static final String[] THINGS = {"a", "a", "a", "0", "0>1", "0"};
    private static final Bounds.Calls NO_CALLS = x -> { };

    private TextBounds() {
    }

    static void test() {
        sixtyCharacters();
        ordersBetween();
        words();
        numbersOfRules();
        poursInTexts();
        moresInTexts();
        lettersOfMixes();
        unitsOfMixes();
        numbersOfJars();
        faultOfText();
        endsTooEarly();
        typeAppends();
        typeCharacter();
        typeLength();
        typeFull();
        clearEmpties();
        clearLength();
        faultTold();
        faultIndex();
        faultNone();
        allOrNone();
        oneAct();
        orderOfNone();
        unitsAsTheyStand();
        howManyOrders();
        faultOfOrders();
        firstError();
        errorsOfFull();
        errorsWhenTheTurnComes();
    }

    /** What fault() and doAll() say of a text; a text with a fault does nothing. */
    private static void fault(String text, int want) {
        SpiceThrees x = written(text);
        Bounds.due("fault() of " + text, x.fault(), want);
        if (want >= 0) {
            Bounds.due("doAll() of " + text, x.doAll(), -100 - want);
            Bounds.due("count(16)", x.count(16), 0);
            Bounds.due("count(17)", x.count(17), text.length());
        }
    }

    private static void allowed(String text) {
        fault(text, Bounds.NONE);
    }

    private static SpiceThrees written(String text) {
        return Bounds.made(x -> Bounds.write(x, text));
    }

    private static Bounds.Calls written(Bounds.Calls before, String text) {
        return x -> {
            before.on(x);
            Bounds.write(x, text);
        };
    }

    private static String times(String part, int times, String between) {
        StringBuilder all = new StringBuilder();
        for (int i = 0; i < times; i++) {
            all.append(i == 0 ? "" : between).append(part);
        }
        return all.toString();
    }

    // ---- Terms

    /** Terms: "There is a text of at most 60 characters, empty at first." */
    private static void sixtyCharacters() {
        Bounds.terms("There is a text of at most 60 characters, empty at first.");
        SpiceThrees x = new SpiceThrees();
        Bounds.due("count(17) at first", x.count(17), 0);
        Bounds.due("clearText() at first", x.clearText(), 0);
        Bounds.write(x, times("a", 58, ""));
        Bounds.due("the character 59", x.type('a'), 59);
        Bounds.due("the character 60", x.type('a'), 60);
        Bounds.due("the character 61", x.type('a'), Bounds.FULL);
        Bounds.due("count(17)", x.count(17), 60);
    }

    /** Terms: "A text of orders is one or more orders with ";" between two" */
    private static void ordersBetween() {
        Bounds.terms("A text of orders is one or more orders with \";\" between two");
        fault("", 0);
        fault(";", 0);
        allowed("jar=a");
        fault("jar=a;", 6);
        fault(";jar=a", 0);
        allowed("jar=a;jar=b");
        fault("jar=a;jar=b;", 12);
        fault("jar=a;;jar=b", 6);
        fault("jar=a:jar=b", 5);
        fault("jar=a,jar=b", 5);
        fault("jar=a jar=b", 5);
        fault("jar=a; jar=b", 6);
        allowed(times("jar=a", 10, ";"));
        fault(times("jar=a", 10, ";") + ";", 60);
        fault(times("jar=a", 9, ";") + ";jar=", 58);
        for (int one = 0; one < WORDS.length; one++) {
            for (int other = 0; other < WORDS.length; other++) {
                allowed(WORDS[one] + "=" + THINGS[one] + ";" + WORDS[other] + "=" + THINGS[other]);
            }
        }
    }

    /** Terms: "a word, "=", and what belongs to it" */
    private static void words() {
        Bounds.terms("a word, \"=\", and what belongs to it: \"jar\" and a mix; \"rule\" and a mix; \"want\" and a mix (a customer comes)");
        for (int i = 0; i < WORDS.length; i++) {
            String word = WORDS[i];
            allowed(word + "=" + THINGS[i]);
            fault(word + "=", word.length() + 1);
            fault(word, word.length());
            fault(word + THINGS[i], word.length());
            fault(word + "==" + THINGS[i], word.length() + 1);
            fault(word + " =" + THINGS[i], word.length());
            fault(word + "= " + THINGS[i], word.length() + 1);
            fault(word + word.charAt(word.length() - 1) + "=" + THINGS[i], word.length());
            fault(word.substring(0, word.length() - 1) + "=" + THINGS[i], word.length() - 1);
            fault("=" + THINGS[i], 0);
            for (int place = 0; place < word.length(); place++) {
                fault(word.substring(0, place) + 'x' + word.substring(place + 1) + "=" + THINGS[i], place);
                fault(word.substring(0, place) + Character.toUpperCase(word.charAt(place)), place);
            }
        }
        fault("serve=", 0);
        fault("price=0", 1);
        fault("keep=", 0);
        for (int i = 0; i < 3; i++) {
            fault(WORDS[i] + "=0", WORDS[i].length() + 1);
        }
        SpiceThrees x = written("want=h2;rule=g;jar=f");
        Bounds.due("doAll()", x.doAll(), 3);
        Bounds.same("the shop", Bounds.jarsTold(x) + ", " + Bounds.rulesTold(x) + ", " + Bounds.waitingTold(x), "0:243, 729, 4374");
    }

    /** Terms: ""drop" and a rule's number (a digit)" */
    private static void numbersOfRules() {
        Bounds.terms("\"drop\" and a rule's number (a digit)");
        for (int digit = 0; digit <= 9; digit++) {
            allowed("drop=" + digit);
            SpiceThrees x = Bounds.made(written(y -> rules(y, 8), "drop=" + digit));
            Bounds.due("doAll() of drop=" + digit + " with eight rules", x.doAll(), digit <= 7 ? 1 : Bounds.UNKNOWN);
            Bounds.due("count(1)", x.count(1), digit <= 7 ? 7 : 8);
        }
        fault("drop=", 5);
        fault("drop=/", 5);
        fault("drop=:", 5);
        fault("drop=-1", 5);
        fault("drop=a", 5);
        fault("drop=10", 6);
        fault("drop=00", 6);
        fault("drop=07", 6);
    }

    private static void rules(SpiceThrees x, int size) {
        for (int mix = 1; mix <= size; mix++) {
            x.rule(mix);
        }
    }

    /** Terms: ""pour" and a jar's number, ">", another jar's number" */
    private static void poursInTexts() {
        Bounds.terms("\"pour\" and a jar's number, \">\", another jar's number");
        allowed("pour=0>1");
        allowed("pour=199>198");
        allowed("pour=5>5");
        fault("pour=", 5);
        fault("pour=>1", 5);
        fault("pour=1", 6);
        fault("pour=1>", 7);
        fault("pour=1<2", 6);
        fault("pour=1=2", 6);
        fault("pour=1-2", 6);
        fault("pour=1>>2", 7);
        fault("pour=1>a", 7);
        fault("pour=1>2>3", 8);
        fault("pour=1;2", 6);
        fault("pour=199", 8);
        fault("pour=199>", 9);
        SpiceThrees x = Bounds.made(written(Bounds.jars(1, 3, 9), "pour=0>2"));
        Bounds.due("doAll()", x.doAll(), 1);
        Bounds.same("the jars", Bounds.jarsTold(x), "0:0 1:3 2:10");
        refused(Bounds.BAD_VALUE, Bounds.jars(1, 3, 9), "pour=1>1");
    }

    /** Terms: ""more" and a jar's number." */
    private static void moresInTexts() {
        Bounds.terms("\"more\" and a jar's number.");
        allowed("more=0");
        allowed("more=199");
        fault("more=", 5);
        fault("more=a", 5);
        fault("more=1>2", 6);
        fault("more=1a", 6);
        SpiceThrees x = Bounds.made(written(Bounds.jars(1, 3, 9), "more=2"));
        Bounds.due("doAll()", x.doAll(), 1);
        Bounds.same("the jars", Bounds.jarsTold(x), "0:1 1:3 2:18");
    }

    /** Terms: "A mix is one or more letters "a" to "h"" */
    private static void lettersOfMixes() {
        Bounds.terms("A mix is one or more letters \"a\" to \"h\"");
        for (int i = 0; i < 3; i++) {
            String start = WORDS[i] + "=";
            fault(start, start.length());
            fault(start + ";", start.length());
            fault(start + "2", start.length());
            fault(start + "`", start.length());
            fault(start + "i", start.length());
            fault(start + "A", start.length());
            fault(start + (char) ('a' + 256), start.length());
            allowed(start + "a");
            allowed(start + "b");
            allowed(start + "g");
            allowed(start + "h");
            allowed(start + "abcdefgh");
            fault(start + "a`", start.length() + 1);
            fault(start + "ai", start.length() + 1);
            allowed(start + times("h", 60 - start.length(), ""));
        }
        mix("a", 1, 1);
        mix("ab", 4, 2);
        mix("h", 2187, 1);
        mix("hgfedcba", 3280, 8);
        mix(times("h", 56, ""), 2 * 2187, 56);
    }

    /** The mix that letters tell, and how many units are bought for it. */
    private static void mix(String letters, int mix, int units) {
        SpiceThrees x = written("jar=" + letters);
        Bounds.due("doAll() of jar=" + letters, x.doAll(), 1);
        Bounds.due("jarOf(0, 0) of jar=" + letters, x.jarOf(0, 0), mix);
        Bounds.due("count(7) of jar=" + letters, x.count(7), units);
        Bounds.due("count(8) of jar=" + letters, x.count(8), units - x.jarOf(0, 1));
        if (letters.length() <= 55) {
            SpiceThrees y = written("rule=" + letters);
            Bounds.due("doAll() of rule=" + letters, y.doAll(), 1);
            Bounds.due("ruleOf(0) of rule=" + letters, y.ruleOf(0), mix);
            Bounds.due("count(7) of rule=" + letters, y.count(7), 0);
            SpiceThrees z = written("want=" + letters);
            Bounds.due("doAll() of want=" + letters, z.doAll(), 1);
            Bounds.due("waiting(0) of want=" + letters, z.waiting(0), mix);
            Bounds.due("count(8) of want=" + letters, z.count(8), 0);
        }
    }

    /** Terms: "each perhaps with a digit 1 to 9 behind it, so many units (one without a digit); letters may come again." */
    private static void unitsOfMixes() {
        Bounds.terms("each perhaps with a digit 1 to 9 behind it, so many units (one without a digit); letters may come again.");
        for (int digit = 1; digit <= 9; digit++) {
            mix("a" + digit, digit % 3, digit);
            mix("h" + digit, digit % 3 * 2187, digit);
            mix("b" + digit + "a", digit % 3 * 3 + 1, digit + 1);
        }
        for (int i = 0; i < 3; i++) {
            String start = WORDS[i] + "=";
            fault(start + "a0", start.length() + 1);
            fault(start + "a/", start.length() + 1);
            fault(start + "a:", start.length() + 1);
            fault(start + "a10", start.length() + 2);
            fault(start + "a11", start.length() + 2);
            fault(start + "a99", start.length() + 2);
            fault(start + "a1b0", start.length() + 3);
            fault(start + "2a", start.length());
        }
        mix("aa", 2, 2);
        mix("aaa", 0, 3);
        mix("aba", 2 + 3, 3);
        mix("a9a9a9", 0, 27);
        mix("a2a2", 1, 4);
        mix("a9ba", 1 + 3, 11);
        mix(times("h9", 28, ""), 0, 252);
        mix(times("h9", 27, "") + "h8", 2 * 2187, 251);
    }

    /** Terms: "A jar's number is 0 to 199, without a zero in front ...; a digit by which it would be greater is not allowed." */
    private static void numbersOfJars() {
        Bounds.terms("A jar's number is 0 to 199, without a zero in front unless it is the single digit 0; "
            + "a digit by which it would be greater is not allowed.");
        String[] starts = {"more=", "pour=", "pour=7>"};
        String[] ends = {"", ">3", ""};
        for (int i = 0; i < starts.length; i++) {
            int from = starts[i].length();
            for (int number : new int[] {0, 1, 2, 8, 9, 10, 11, 19, 20, 21, 98, 99, 100, 101, 109, 110, 190, 198, 199}) {
                allowed(starts[i] + number + ends[i]);
                SpiceThrees x = written("jar=a;" + starts[i] + number + ends[i]);
                int due = i == 0 && number == 0 ? 2 : Bounds.UNKNOWN;
                Bounds.due("doAll() of jar=a;" + starts[i] + number + ends[i], x.doAll(), due);
            }
            for (int number : new int[] {200, 201, 210, 250, 299, 300, 900, 999, 1000, 1001, 1990, 1999}) {
                fault(starts[i] + number + ends[i], from + (number < 1000 ? 2 : 3));
            }
            fault(starts[i] + "00" + ends[i], from + 1);
            fault(starts[i] + "01" + ends[i], from + 1);
            fault(starts[i] + "09" + ends[i], from + 1);
            fault(starts[i] + "0199" + ends[i], from + 1);
            fault(starts[i] + "4294967297" + ends[i], from + 2);
            fault(starts[i] + "/", from);
            fault(starts[i] + ":", from);
            fault(starts[i] + "-1", from);
            fault(starts[i] + "1:", from + 1);
            fault(starts[i] + "1/", from + 1);
        }
        highestJarInText();
    }

    /** The jar 199 is told in a text, and found there. */
    private static void highestJarInText() {
        SpiceThrees x = new SpiceThrees();
        for (int number = 0; number < 200; number++) {
            x.jar(number == 198 ? 3 : 1);
            if (number < 198) {
                x.throwAway(number);
            }
        }
        Bounds.write(x, "more=199;pour=199>198");
        Bounds.due("doAll() with the jars 198 and 199", x.doAll(), 2);
        Bounds.same("the jars", Bounds.jarsTold(x), "198:5 199:0");
    }

    /** Terms: "The fault of the text is the index, from 0, of the first character that is not allowed at its place (...)" */
    private static void faultOfText() {
        Bounds.terms("The fault of the text is the index, from 0, of the first character that is not allowed at its place "
            + "(a letter of a word is allowed if some word begins so)");
        for (char first = 0; first < 300; first++) {
            fault(Character.toString(first), "jrwdpm".indexOf(first) >= 0 ? 1 : 0);
        }
        for (String word : WORDS) {
            for (char second = 0; second < 128; second++) {
                fault(word.charAt(0) + Character.toString(second), second == word.charAt(1) ? 2 : 1);
            }
        }
        fault("xjar=a", 0);
        fault("jxx", 1);
        fault("jaxx", 2);
        fault("jar=ax", 5);
        fault("jar=a;x", 6);
        fault("jar=a;jax", 8);
        fault("pore=1", 2);
        fault("drap=1", 2);
        fault("wast=a", 2);
        fault("rude=a", 2);
        fault("moru=1", 3);
        // of two faults the first one, also where the second one stands in an order that is worse
        fault("jar=i;xxx", 4);
        fault("jar=a;more=200;drop=x", 13);
        fault(times("a", 60, ""), 0);
        fault("jar=" + times("a", 55, "") + "i", 59);
        fault("jar=" + times("a", 54, "") + ";i", 59);
    }

    /** Terms: "or the length of the text if it ends too early (the empty text does)." */
    private static void endsTooEarly() {
        Bounds.terms("or the length of the text if it ends too early (the empty text does).");
        String whole = "jar=a2b;rule=c;want=d9;drop=7;pour=10>199;more=0";
        String ends = "jar=a|jar=a2|jar=a2b|jar=a2b;rule=c|jar=a2b;rule=c;want=d|jar=a2b;rule=c;want=d9|jar=a2b;rule=c;want=d9;drop=7"
            + "|jar=a2b;rule=c;want=d9;drop=7;pour=10>1|jar=a2b;rule=c;want=d9;drop=7;pour=10>19"
            + "|jar=a2b;rule=c;want=d9;drop=7;pour=10>199|jar=a2b;rule=c;want=d9;drop=7;pour=10>199;more=0|";
        for (int length = 0; length <= whole.length(); length++) {
            String text = whole.substring(0, length);
            fault(text, length > 0 && ("|" + ends).contains("|" + text + "|") ? Bounds.NONE : length);
        }
        fault("jar=" + times("a", 55, "") + ";", 60);
        fault(times("jar=a;", 10, ""), 60);
        fault(times("jar=a;", 9, "") + "more=", 59);
        fault(times("jar=a;", 9, "") + "pour=1", 60);
    }

    // ---- Promise 11: type

    /** Promise 11: "Appends a character to the text." */
    private static void typeAppends() {
        Bounds.promise(11, "Appends a character to the text.");
        SpiceThrees x = new SpiceThrees();
        int[] faults = {1, 2, 3, 4, Bounds.NONE, Bounds.NONE, 7};
        String text = "jar=ab;";
        for (int place = 0; place < text.length(); place++) {
            x.type(text.charAt(place));
            Bounds.due("fault() of " + text.substring(0, place + 1), x.fault(), faults[place]);
            Bounds.due("count(17)", x.count(17), place + 1);
        }
        x.type((char) 0);
        Bounds.due("fault(), a character behind", x.fault(), 7);
        Bounds.due("count(17)", x.count(17), 8);
        // the last character of a full text stands in it
        SpiceThrees y = written("jar=" + times("a", 55, ""));
        y.type('h');
        Bounds.due("doAll() of 60 characters", y.doAll(), 1);
        Bounds.due("jarOf(0, 0)", y.jarOf(0, 0), 2187 + 1);
    }

    /** Promise 11: "`character`: any character" */
    private static void typeCharacter() {
        Bounds.promise(11, "`character`: any character");
        SpiceThrees x = new SpiceThrees();
        char[] characters = {0, 1, ' ', '~', 127, 128, 255, 256, 0x7fff, 0x8000, 0xd800, 0xfffe, 0xffff};
        for (int place = 0; place < characters.length; place++) {
            Bounds.due("type((char) " + (int) characters[place] + ")", x.type(characters[place]), place + 1);
        }
        Bounds.due("fault()", x.fault(), 0);
        Bounds.due("clearText()", x.clearText(), characters.length);
    }

    /** Promise 11: "Returns the length then" */
    private static void typeLength() {
        Bounds.promise(11, "Returns the length then");
        SpiceThrees x = new SpiceThrees();
        for (int length = 1; length <= 60; length++) {
            Bounds.due("type", x.type(';'), length);
        }
        x.clearText();
        Bounds.due("type into the emptied text", x.type(';'), 1);
        Bounds.due("count(16), it is no act", x.count(16), 0);
    }

    /** Promise 11: "FULL if it has 60 characters." */
    private static void typeFull() {
        Bounds.promise(11, "FULL if it has 60 characters.");
        String full = times("jar=a", 10, ";") + "a";
        Bounds.due("the character 60", written(full.substring(0, 59)).type('a'), 60);
        for (char character : new char[] {'a', ';', 0, 0xffff}) {
            Bounds.refused(Bounds.FULL, "the character 61, " + (int) character, x -> Bounds.write(x, full), x -> x.type(character));
        }
        SpiceThrees x = written(full);
        x.type(';');
        Bounds.due("fault() as before", x.fault(), Bounds.NONE);
        Bounds.due("doAll() as before", x.doAll(), 10);
    }

    // ---- Promise 12: clearText

    /** Promise 12: "Empties the text." */
    private static void clearEmpties() {
        Bounds.promise(12, "Empties the text.");
        for (int length : new int[] {0, 1, 5, 59, 60}) {
            SpiceThrees x = written("jar=".substring(0, Math.min(4, length)) + times("a", length - 4, ""));
            x.clearText();
            Bounds.due("count(17)", x.count(17), 0);
            Bounds.due("fault()", x.fault(), 0);
            Bounds.due("doAll()", x.doAll(), -100);
            Bounds.write(x, "jar=h");
            Bounds.due("doAll() of a new text", x.doAll(), 1);
            Bounds.due("jarOf(0, 0)", x.jarOf(0, 0), 2187);
        }
        // nothing of the text that was stands behind a shorter one
        SpiceThrees x = written("jar=abc");
        Bounds.write(x, "jar=");
        Bounds.due("fault()", x.fault(), 4);
    }

    /** Promise 12: "Returns the length that it had." */
    private static void clearLength() {
        Bounds.promise(12, "Returns the length that it had.");
        for (int length : new int[] {0, 1, 2, 59, 60}) {
            SpiceThrees x = written(times("x", length, ""));
            Bounds.due("clearText()", x.clearText(), length);
            Bounds.due("clearText() once more", x.clearText(), 0);
            Bounds.due("count(16), it is no act", x.count(16), 0);
        }
        SpiceThrees x = written(times("x", 61, ""));
        Bounds.due("clearText(), one character too many", x.clearText(), 60);
    }

    // ---- Promise 13: fault

    /** Promise 13: "Tells the fault of the text." */
    private static void faultTold() {
        Bounds.promise(13, "Tells the fault of the text.");
        SpiceThrees x = written("jar=a;");
        Bounds.due("fault()", x.fault(), 6);
        Bounds.due("fault() once more", x.fault(), 6);
        x.type('j');
        Bounds.due("fault()", x.fault(), 7);
        x.type('x');
        Bounds.due("fault()", x.fault(), 7);
        // jars and rules that are not there are no fault
        allowed("more=5;drop=9;pour=1>1");
        Bounds.due("count(16), it is no act", x.count(16), 0);
    }

    /** Promise 13: "Returns the index" */
    private static void faultIndex() {
        Bounds.promise(13, "Returns the index");
        fault("", 0);
        fault("x", 0);
        fault("j", 1);
        fault("jx", 1);
        fault("jar=" + times("a", 54, "") + "x", 58);
        fault("jar=" + times("a", 55, "") + "x", 59);
        fault("jar=" + times("a", 55, "") + ";", 60);
    }

    /** Promise 13: "NONE if it has none." */
    private static void faultNone() {
        Bounds.promise(13, "NONE if it has none.");
        for (int i = 0; i < WORDS.length; i++) {
            allowed(WORDS[i] + "=" + THINGS[i]);
            fault(WORDS[i] + "=" + THINGS[i] + "!", WORDS[i].length() + 1 + THINGS[i].length());
            fault(WORDS[i] + "=" + THINGS[i].substring(0, THINGS[i].length() - 1), WORDS[i].length() + THINGS[i].length());
        }
        allowed("jar=" + times("a", 55, ""));
        allowed("jar=" + times("a", 56, ""));
        Bounds.refused(Bounds.NONE, "fault()", x -> Bounds.write(x, "jar=a;jar=b2"), SpiceThrees::fault);
    }

    // ---- Promise 14: doAll

    /** Answers an error, and nothing shows that it was called. */
    private static void refused(int want, Bounds.Calls before, String text) {
        Bounds.refused(want, "doAll() of " + text, written(before, text), SpiceThrees::doAll);
    }

    /** Promise 14: "Does the orders of the text, which stays, one after the other; all of them or none." */
    private static void allOrNone() {
        Bounds.promise(14, "Does the orders of the text, which stays, one after the other; all of them or none.");
        SpiceThrees x = written("jar=a;jar=b;pour=1>0;rule=c;want=a2b;more=0");
        Bounds.due("doAll()", x.doAll(), 6);
        Bounds.same("the shop", Bounds.jarsTold(x) + ", " + Bounds.rulesTold(x) + ", " + Bounds.waitingTold(x), "0:8 1:0, 9, 5");
        Bounds.due("count(17), the text stays", x.count(17), 43);
        Bounds.due("doAll() once more", x.doAll(), 6);
        Bounds.same("the shop", Bounds.jarsTold(x) + ", " + Bounds.rulesTold(x) + ", " + Bounds.waitingTold(x),
            "0:4 1:0 2:1 3:3, 9 9, 5 5");
        refused(Bounds.UNKNOWN, NO_CALLS, "jar=a;jar=b;pour=1>0;rule=c;want=a2b;more=0;more=2");
        refused(Bounds.UNKNOWN, Bounds.jars(5, 6), "more=2;jar=a;jar=b;pour=1>0");
        refused(Bounds.UNKNOWN, y -> rules(y, 3), "drop=0;drop=0;rule=h;drop=0;drop=0;drop=0");
        Bounds.due("the orders with one rule more", Bounds.made(written(y -> rules(y, 4), "drop=0;drop=0;rule=h;drop=0;drop=0;drop=0")).doAll(), 6);
    }

    /** Promise 14: "This is one act." */
    private static void oneAct() {
        Bounds.promise(14, "This is one act.");
        SpiceThrees x = written(times("jar=a", 10, ";"));
        x.doAll();
        Bounds.due("count(16) after ten orders", x.count(16), 1);
        Bounds.due("undo()", x.undo(), 0);
        Bounds.same("the shop", Bounds.stateTold(x), Bounds.stateTold(new SpiceThrees()));
        Bounds.due("count(17), the text stays", x.count(17), 59);
        Bounds.due("doAll() once more", x.doAll(), 10);
        Bounds.due("ranked(0), numbers as they were", x.ranked(0), 0);
        Bounds.due("ranked(9)", x.ranked(9), 9);
        SpiceThrees y = written("jar=a");
        for (int states = 1; states <= 6; states++) {
            y.doAll();
            Bounds.due("count(16)", y.count(16), Math.min(states, 4));
        }
    }

    /** Promise 14: "(An order that returns NONE does nothing, and is no error." */
    private static void orderOfNone() {
        Bounds.promise(14, "(An order that returns NONE does nothing, and is no error.");
        SpiceThrees x = Bounds.made(written(Bounds.jars(0, 5), "more=0;pour=0>1;more=1"));
        Bounds.due("doAll()", x.doAll(), 3);
        Bounds.same("the jars", Bounds.jarsTold(x), "0:0 1:7");
        Bounds.due("count(16)", x.count(16), 3);
        SpiceThrees y = Bounds.made(written(Bounds.jars(0, 5), "more=0"));
        String before = Bounds.stateTold(y);
        Bounds.due("doAll() of one order that does nothing", y.doAll(), 1);
        Bounds.same("the state", Bounds.stateTold(y), before);
        Bounds.due("count(16), it is an act that returns no error", y.count(16), 3);
        Bounds.due("undo()", y.undo(), 2);
        Bounds.same("the state", Bounds.stateTold(y), before);
        SpiceThrees z = Bounds.made(written(Bounds.jars(1, 5), "pour=0>1;pour=0>1;more=0;pour=0>1"));
        Bounds.due("doAll(), empty when the turn comes", z.doAll(), 4);
        Bounds.same("the jars", Bounds.jarsTold(z), "0:0 1:3");
        refused(Bounds.UNKNOWN, Bounds.jars(0, 5), "more=0;more=2");
    }

    /** Promise 14: "The units of a jar's mix are bought as they stand in the text, also those that cancel.)" */
    private static void unitsAsTheyStand() {
        Bounds.promise(14, "The units of a jar's mix are bought as they stand in the text, also those that cancel.)");
        bought("a2", "0:2", "2 0 0 0 2 2 0 0 0");
        bought("a3", "0:0", "3 3 0 0 0 3 0 0 0");
        bought("a4", "0:1", "4 3 0 0 1 4 0 0 0");
        bought("a5", "0:2", "5 3 0 0 2 5 0 0 0");
        bought("a6", "0:0", "6 6 0 0 0 6 0 0 0");
        bought("a9", "0:0", "9 9 0 0 0 9 0 0 0");
        bought("aa", "0:2", "2 0 0 0 2 2 0 0 0");
        bought("aaa", "0:0", "3 3 0 0 0 3 0 0 0");
        bought("ah2a2h", "0:0", "6 6 0 0 0 27 0 0 0");
        bought("h8a", "0:4375", "9 6 0 0 3 65 0 0 0");
        bought(times("h9", 28, ""), "0:0", "252 252 0 0 0 2016 0 0 0");
        // the price is the one of the time when the order's turn comes, as all orders leave it
        SpiceThrees x = Bounds.made(written(y -> y.price(0, 99), "jar=a9"));
        x.doAll();
        Bounds.due("count(12)", x.count(12), 891);
    }

    private static void bought(String letters, String jars, String accounts) {
        SpiceThrees x = written("jar=" + letters);
        Bounds.due("doAll() of jar=" + letters, x.doAll(), 1);
        Bounds.same("the jar of " + letters, Bounds.jarsTold(x), jars);
        Bounds.same("the accounts of " + letters, Bounds.accountsTold(x), accounts);
        Bounds.due("undo()", x.undo(), 0);
        Bounds.same("the accounts", Bounds.accountsTold(x), "0 0 0 0 0 0 0 0 0");
    }

    /** Promise 14: "Returns how many orders the text has" */
    private static void howManyOrders() {
        Bounds.promise(14, "Returns how many orders the text has");
        for (int orders = 1; orders <= 10; orders++) {
            Bounds.due("doAll() of " + orders + " orders", written(times("jar=a", orders, ";")).doAll(), orders);
        }
        Bounds.due("doAll() of no order", new SpiceThrees().doAll(), -100);
        Bounds.due("doAll() of eight rules", written(times("rule=a", 8, ";")).doAll(), 8);
        Bounds.due("doAll() of eight customers", written(times("want=h", 8, ";")).doAll(), 8);
        Bounds.due("doAll() of eight drops", Bounds.made(written(x -> rules(x, 8), times("drop=0", 8, ";"))).doAll(), 8);
    }

    /** Promise 14: "-100 minus the fault of the text if it has one (which is an error)" */
    private static void faultOfOrders() {
        Bounds.promise(14, "-100 minus the fault of the text if it has one (which is an error)");
        refused(-100, Bounds.jars(5), "");
        refused(-100, Bounds.jars(5), "x");
        refused(-101, Bounds.jars(5), "j");
        refused(-105, Bounds.jars(5), "jar=a.");
        refused(-111, Bounds.jars(5), "jar=a;jar=b.");
        refused(-159, Bounds.jars(5), "jar=" + times("a", 55, "") + "x");
        refused(-160, Bounds.jars(5), "jar=" + times("a", 55, "") + ";");
        // a fault behind an order with an error comes first
        refused(-107, Bounds.jars(5), "more=9;");
        refused(-107, Bounds.jars(5), "more=9;x");
        refused(-102, Bounds.jars(5), "jat=a;more=9");
        Bounds.due("doAll() of 60 characters without a fault", written("jar=" + times("a", 56, "")).doAll(), 1);
    }

    /** Promise 14: "otherwise the error that the method of the first order returns that has one when its turn comes." */
    private static void firstError() {
        Bounds.promise(14, "otherwise the error that the method of the first order returns that has one when its turn comes.");
        Bounds.Calls two = Bounds.jars(1, 0);
        refused(Bounds.UNKNOWN, two, "more=2");
        refused(Bounds.UNKNOWN, two, "pour=2>0");
        refused(Bounds.UNKNOWN, two, "pour=0>2");
        refused(Bounds.UNKNOWN, two, "pour=199>199");
        refused(Bounds.BAD_VALUE, two, "pour=0>0");
        refused(Bounds.BAD_VALUE, two, "pour=1>1");
        refused(Bounds.UNKNOWN, two, "drop=0");
        refused(Bounds.UNKNOWN, two, "drop=9");
        refused(Bounds.UNKNOWN, two, "more=2;pour=0>0");
        refused(Bounds.BAD_VALUE, two, "pour=0>0;more=2");
        refused(Bounds.BAD_VALUE, two, "more=1;pour=0>0;more=2");
        Bounds.due("doAll() without an error", Bounds.made(written(two, "more=1;pour=0>1;more=0")).doAll(), 3);
    }

    /** Promise 14, the error FULL: twelve jars, 200 jars, eight rules, eight customers, by one too many. */
    private static void errorsOfFull() {
        Bounds.promise(14, "the error that the method of the first order returns");
        Bounds.due("ten jars on two", Bounds.made(written(Bounds.jars(1, 2), times("jar=a", 10, ";"))).doAll(), 10);
        refused(Bounds.FULL, Bounds.jars(1, 2, 3), times("jar=a", 10, ";"));
        Bounds.Calls near = x -> came(x, 197);
        SpiceThrees x = Bounds.made(written(near, "jar=a;jar=b;jar=c"));
        Bounds.due("the jars 197, 198 and 199", x.doAll(), 3);
        Bounds.same("the jars", Bounds.jarsTold(x), "197:1 198:3 199:9");
        SpiceThrees y = Bounds.made(written(near, "jar=a;jar=b;jar=c;jar=d"));
        Bounds.due("one more", y.doAll(), Bounds.FULL);
        Bounds.due("the next jar, as none came", y.jar(1), 197);
        Bounds.due("eight rules", Bounds.made(written(z -> rules(z, 1), times("rule=a", 7, ";"))).doAll(), 7);
        refused(Bounds.FULL, z -> rules(z, 1), times("rule=a", 8, ";"));
        Bounds.due("eight customers", Bounds.made(written(z -> z.want(5), times("want=a", 7, ";"))).doAll(), 7);
        refused(Bounds.FULL, z -> z.want(5), times("want=a", 8, ";"));
        refused(Bounds.FULL, z -> rules(z, 8), "rule=a;more=9");
        refused(Bounds.UNKNOWN, z -> rules(z, 8), "more=9;rule=a");
    }

    private static void came(SpiceThrees x, int times) {
        for (int number = 0; number < times; number++) {
            x.jar(3);
            x.throwAway(number);
        }
    }

    /** Promise 14: "when its turn comes" */
    private static void errorsWhenTheTurnComes() {
        Bounds.promise(14, "that has one when its turn comes.");
        Bounds.due("a jar that comes before", written("jar=a;more=0").doAll(), 2);
        refused(Bounds.UNKNOWN, NO_CALLS, "more=0;jar=a");
        Bounds.due("a rule that comes before", written("rule=a;drop=0").doAll(), 2);
        refused(Bounds.UNKNOWN, NO_CALLS, "drop=0;rule=a");
        refused(Bounds.UNKNOWN, NO_CALLS, "rule=a;drop=0;drop=0");
        Bounds.due("room that is made before", Bounds.made(written(x -> rules(x, 8), "drop=7;rule=h")).doAll(), 2);
        refused(Bounds.FULL, x -> rules(x, 8), "rule=h;drop=7");
        refused(Bounds.UNKNOWN, x -> rules(x, 8), "drop=0;drop=7");
        Bounds.due("the last rule while there are eight", Bounds.made(written(x -> rules(x, 8), "drop=7;drop=0")).doAll(), 2);
    }
}

/**
 * For each promise of the document: ordinary inputs, its edges, and wrong inputs.
 * No object is asked more than 512 times, as nothing is promised behind that.
 */
public final class PromiseTests {
    private static final int UNKNOWN = -1;
    private static final int BAD_VALUE = -2;
    private static final int FULL = -3;
    private static final int NONE = -5;
    private static int wrong = 0;
    private static int promise = 0;

    private static void due(String call, long got, long want) {
        if (got != want) {
            wrong++;
            System.out.println("promise " + promise + ": " + call + " answered " + got + ", due is " + want);
        }
    }

    private static void dueD(String call, double got, double want) {
        if (got != want) {
            wrong++;
            System.out.println("promise " + promise + ": " + call + " answered " + got + ", due is " + want);
        }
    }

    private static void write(SpiceThrees x, String text) {
        x.clearText();
        for (int i = 0; i < text.length(); i++) {
            x.type(text.charAt(i));
        }
    }

    private static int faultOf(String text) {
        SpiceThrees x = new SpiceThrees();
        write(x, text);
        return x.fault();
    }

    private static void dueFault(String text, int want) {
        due("fault() of " + text, faultOf(text), want);
    }

    /** All that is told of a shop, so that two states can be compared. */
    private static String told(SpiceThrees x) {
        StringBuilder all = new StringBuilder();
        for (int what = 0; what <= 15; what++) {
            all.append(x.count(what)).append(' ');
        }
        for (int rank = 0; x.ranked(rank) >= 0; rank++) {
            int number = x.ranked(rank);
            all.append(number).append(':').append(x.jarOf(number, 0)).append(' ');
        }
        for (int rule = 0; x.ruleOf(rule) >= 0; rule++) {
            all.append(x.ruleOf(rule)).append(',');
        }
        for (int rank = 0; x.waiting(rank) >= 0; rank++) {
            all.append(' ').append(x.waiting(rank));
        }
        all.append("; ");
        for (int unit = 1; unit < 6561; unit *= 3) {
            all.append(x.mixOf(unit, 1)).append(' ');
        }
        return all.toString();
    }

    public static void main(String[] args) {
        newObject();
        jar();
        jarsEver();
        pour();
        more();
        throwAway();
        rule();
        drop();
        price();
        want();
        serve();
        type();
        clearText();
        faultOfWords();
        faultOfMixes();
        faultOfNumbers();
        doAll();
        doAllErrors();
        undo();
        recordedActs();
        unrecordedCalls();
        keepAndRestore();
        jarOf();
        ranked();
        ruleOf();
        mixOf();
        together();
        alike();
        allBland();
        shelf();
        waiting();
        count();
        lost();
        fewest();
        makes();
        needless();
        ifPoured();
        System.out.println(wrong == 0 ? "all answers are as due" : wrong + " answers are not as due");
        if (wrong != 0) {
            System.exit(1);
        }
    }

    private static void newObject() {
        promise = 1;
        SpiceThrees x = new SpiceThrees();
        int[] counts = {0, 0, 0, 1, 6561, 0, 0, 0, 0, 0, 0, 0, 0, 0, 0, 0, 0, 0};
        for (int what = 0; what < counts.length; what++) {
            due("count(" + what + ")", x.count(what), counts[what]);
        }
        due("ranked(0)", x.ranked(0), NONE);
        due("ruleOf(0)", x.ruleOf(0), UNKNOWN);
        due("waiting(0)", x.waiting(0), NONE);
        due("undo()", x.undo(), NONE);
        due("restore()", x.restore(), NONE);
        int unit = 1;
        for (int spice = 0; spice < 8; spice++) {
            due("mixOf(" + unit + ", 1)", x.mixOf(unit, 1), spice + 1);
            unit *= 3;
        }
        SpiceThrees other = new SpiceThrees();
        x.jar(5);
        due("count(0) of another object", other.count(0), 0);
    }

    private static void jar() {
        promise = 2;
        SpiceThrees x = new SpiceThrees();
        due("jar(-1)", x.jar(-1), BAD_VALUE);
        due("jar(6561)", x.jar(6561), BAD_VALUE);
        due("jar(min)", x.jar(Integer.MIN_VALUE), BAD_VALUE);
        due("jar(max)", x.jar(Integer.MAX_VALUE), BAD_VALUE);
        due("jar(0)", x.jar(0), 0);
        due("count(7)", x.count(7), 0);
        due("jar(6560)", x.jar(6560), 1);
        due("count(7)", x.count(7), 16);
        due("count(12)", x.count(12), 72);
        due("count(8)", x.count(8), 0);
        for (int number = 2; number < 12; number++) {
            due("jar(5)", x.jar(5), number);
        }
        due("the thirteenth jar", x.jar(5), FULL);
        due("the thirteenth jar, wrong", x.jar(6561), BAD_VALUE);
        due("count(0)", x.count(0), 12);
        x.throwAway(3);
        due("a jar after one left", x.jar(7), 12);
        due("ranked(11)", x.ranked(11), 12);
        due("ranked(3)", x.ranked(3), 4);
    }

    private static void jarsEver() {
        promise = 2;
        SpiceThrees x = new SpiceThrees();
        for (int number = 0; number < 200; number++) {
            due("jar(1)", x.jar(1), number);
            if (number < 199) {
                due("throwAway", x.throwAway(number), 1);
            }
        }
        due("jar 200", x.jar(1), FULL);
        due("jar 200, wrong", x.jar(-1), BAD_VALUE);
        due("jarOf(199, 0)", x.jarOf(199, 0), 1);
        due("throwAway(199)", x.throwAway(199), 1);
        due("jar 200", x.jar(1), FULL);
        write(x, "jar=a");
        due("doAll()", x.doAll(), FULL);
        due("undo()", x.undo(), 3);
        due("undo()", x.undo(), 2);
        due("jar 199 once more, as the state was", x.jar(2), 199);
    }

    private static void pour() {
        promise = 3;
        SpiceThrees x = new SpiceThrees();
        x.jar(1 + 2 * 3 + 9);
        x.jar(2 + 2 * 3);
        x.jar(0);
        due("pour(0, 5)", x.pour(0, 5), UNKNOWN);
        due("pour(5, 0)", x.pour(5, 0), UNKNOWN);
        due("pour(5, 5)", x.pour(5, 5), UNKNOWN);
        due("pour(-1, 0)", x.pour(-1, 0), UNKNOWN);
        due("pour(1, 1)", x.pour(1, 1), BAD_VALUE);
        due("pour(2, 2)", x.pour(2, 2), BAD_VALUE);
        due("pour(2, 1)", x.pour(2, 1), NONE);
        due("count(16)", x.count(16), 3);
        due("pour(0, 1)", x.pour(0, 1), 6);
        due("jarOf(0, 0)", x.jarOf(0, 0), 0);
        due("jarOf(1, 0)", x.jarOf(1, 0), 3 + 9);
        due("count(8)", x.count(8), 6);
        due("count(7)", x.count(7), 8);
        due("pour(1, 2)", x.pour(1, 2), 0);
        due("jarOf(2, 0)", x.jarOf(2, 0), 3 + 9);
        due("count(16)", x.count(16), 4);
        due("count(0)", x.count(0), 3);
    }

    private static void more() {
        promise = 4;
        SpiceThrees x = new SpiceThrees();
        x.jar(1 + 2 * 3);
        x.jar(0);
        x.price(1, 10);
        due("more(2)", x.more(2), UNKNOWN);
        due("more(-1)", x.more(-1), UNKNOWN);
        due("more(1)", x.more(1), NONE);
        due("more(0)", x.more(0), 2 + 3);
        due("count(7)", x.count(7), 6);
        due("count(8)", x.count(8), 3);
        due("count(12)", x.count(12), 1 + 2 * 2 + 1 + 2 * 10);
        due("more(0)", x.more(0), 1 + 2 * 3);
        due("count(8)", x.count(8), 6);
        due("count(16)", x.count(16), 4);
    }

    private static void throwAway() {
        promise = 5;
        SpiceThrees x = new SpiceThrees();
        x.jar(5);
        x.jar(0);
        x.jar(6560);
        due("throwAway(3)", x.throwAway(3), UNKNOWN);
        due("throwAway(-1)", x.throwAway(-1), UNKNOWN);
        due("throwAway(0)", x.throwAway(0), 3);
        due("throwAway(0)", x.throwAway(0), UNKNOWN);
        due("throwAway(1)", x.throwAway(1), 0);
        due("jarOf(2, 0)", x.jarOf(2, 0), 6560);
        due("throwAway(2)", x.throwAway(2), 16);
        due("count(10)", x.count(10), 19);
        due("count(0)", x.count(0), 0);
        due("jar(1)", x.jar(1), 3);
    }

    private static void rule() {
        promise = 6;
        SpiceThrees x = new SpiceThrees();
        due("rule(-1)", x.rule(-1), BAD_VALUE);
        due("rule(6561)", x.rule(6561), BAD_VALUE);
        due("rule(0)", x.rule(0), 0);
        due("rule(1 + 3)", x.rule(4), 1);
        due("rule(2 + 2 * 3)", x.rule(8), 1);
        due("rule(3 + 9)", x.rule(12), 2);
        due("rule(1 + 2 * 9), which the two before make", x.rule(19), 2);
        due("rule(1 + 9), which they don't", x.rule(10), 3);
        due("mixOf(1, 3)", x.mixOf(1, 3), 1);
        due("mixOf(27, 3)", x.mixOf(27, 3), 0);
        due("rule(2187)", x.rule(2187), 4);
        due("rule(2187)", x.rule(2187), 4);
        due("rule(2187)", x.rule(2187), FULL);
        due("rule(6561)", x.rule(6561), BAD_VALUE);
        due("count(1)", x.count(1), 8);
    }

    private static void drop() {
        promise = 7;
        SpiceThrees x = new SpiceThrees();
        due("drop(0)", x.drop(0), UNKNOWN);
        x.rule(1);
        x.rule(2);
        x.rule(3);
        due("drop(-1)", x.drop(-1), UNKNOWN);
        due("drop(3)", x.drop(3), UNKNOWN);
        due("drop(0)", x.drop(0), 2);
        due("ruleOf(0)", x.ruleOf(0), 2);
        due("ruleOf(1)", x.ruleOf(1), 3);
        due("ruleOf(2)", x.ruleOf(2), UNKNOWN);
        due("drop(1)", x.drop(1), 1);
        due("mixOf(3, 3)", x.mixOf(3, 3), 0);
        due("mixOf(1, 3)", x.mixOf(1, 3), 1);
        due("drop(0)", x.drop(0), 0);
        due("drop(0)", x.drop(0), UNKNOWN);
        due("mixOf(1, 3)", x.mixOf(1, 3), 0);
    }

    private static void price() {
        promise = 8;
        SpiceThrees x = new SpiceThrees();
        x.jar(1 + 2 * 2187);
        due("price(-1, 5)", x.price(-1, 5), UNKNOWN);
        due("price(8, 5)", x.price(8, 5), UNKNOWN);
        due("price(8, 100)", x.price(8, 100), UNKNOWN);
        due("price(7, 100)", x.price(7, 100), BAD_VALUE);
        due("price(7, -1)", x.price(7, -1), BAD_VALUE);
        due("price(7, 8)", x.price(7, 8), NONE);
        due("price(7, 99)", x.price(7, 99), 8);
        due("price(7, 99)", x.price(7, 99), NONE);
        due("jarOf(0, 2)", x.jarOf(0, 2), 1 + 2 * 99);
        due("price(7, 0)", x.price(7, 0), 99);
        due("jarOf(0, 2)", x.jarOf(0, 2), 1);
        due("count(12), paid before", x.count(12), 17);
        due("count(16)", x.count(16), 3);
    }

    private static void want() {
        promise = 9;
        SpiceThrees x = new SpiceThrees();
        due("want(-1)", x.want(-1), BAD_VALUE);
        due("want(6561)", x.want(6561), BAD_VALUE);
        for (int waits = 1; waits <= 8; waits++) {
            due("want", x.want(waits == 1 ? 0 : 6560), waits);
        }
        due("the ninth", x.want(1), FULL);
        due("the ninth, wrong", x.want(6561), BAD_VALUE);
        due("count(6)", x.count(6), 8);
    }

    private static void serve() {
        promise = 10;
        SpiceThrees x = new SpiceThrees();
        due("serve()", x.serve(), NONE);
        x.jar(1);
        x.jar(2 + 3);
        x.jar(2 + 3);
        x.want(5);
        due("serve()", x.serve(), 6);
        due("ranked(1)", x.ranked(1), 2);
        due("count(9)", x.count(9), 3);
        due("count(13)", x.count(13), 6);
        due("count(14)", x.count(14), 1);
        x.want(27);
        x.want(5);
        due("serve(), none tastes so", x.serve(), 0);
        due("count(15)", x.count(15), 1);
        due("count(14)", x.count(14), 1);
        due("waiting(0)", x.waiting(0), 5);
        due("undo()", x.undo(), 3);
        due("waiting(0)", x.waiting(0), 27);
        x.serve();
        x.rule(4);
        due("a jar of the taste, with the lowest number: 1 is like 5", x.serve(), 1);
        due("ranked(0)", x.ranked(0), 2);
        due("count(9)", x.count(9), 4);
        x.want(1);
        x.price(0, 7);
        due("by the price as it is now: 16 and 8", x.serve(), 24);
        x.jar(0);
        x.want(4);
        due("a jar of no price", x.serve(), 0);
        due("count(14)", x.count(14), 4);
        due("count(15)", x.count(15), 1);
        due("count(0)", x.count(0), 0);
        due("count(13)", x.count(13), 31);
    }

    private static void type() {
        promise = 11;
        SpiceThrees x = new SpiceThrees();
        due("type of 0", x.type((char) 0), 1);
        due("type of 65535", x.type((char) 65535), 2);
        due("type of 233", x.type((char) 233), 3);
        for (int length = 4; length <= 60; length++) {
            due("type of a", x.type('a'), length);
        }
        due("type into a full text", x.type('a'), FULL);
        due("count(17)", x.count(17), 60);
        due("count(16)", x.count(16), 0);
    }

    private static void clearText() {
        promise = 12;
        SpiceThrees x = new SpiceThrees();
        due("clearText()", x.clearText(), 0);
        write(x, "jar=a");
        due("clearText()", x.clearText(), 5);
        due("count(17)", x.count(17), 0);
        due("fault()", x.fault(), 0);
        for (int i = 0; i < 61; i++) {
            x.type(';');
        }
        due("clearText()", x.clearText(), 60);
        due("type of a", x.type('a'), 1);
        due("count(16)", x.count(16), 0);
    }

    private static void faultOfWords() {
        promise = 13;
        dueFault("", 0);
        dueFault("x", 0);
        dueFault(" jar=a", 0);
        dueFault("J", 0);
        dueFault("=", 0);
        dueFault(";", 0);
        String[] words = {"jar", "rule", "want", "drop", "pour", "more"};
        String[] rests = {"a", "a", "a", "0", "0>1", "0"};
        for (int i = 0; i < words.length; i++) {
            String word = words[i];
            for (int length = 1; length <= word.length(); length++) {
                dueFault(word.substring(0, length), length);
                dueFault(word.substring(0, length) + "x", length);
                dueFault(word.substring(0, length) + ";", length);
            }
            dueFault(word + "=", word.length() + 1);
            dueFault(word + "=;", word.length() + 1);
            dueFault(word + "==", word.length() + 1);
            dueFault(word + "=" + rests[i], NONE);
            dueFault(word + "=" + rests[i] + " ", word.length() + 1 + rests[i].length());
            dueFault(word + "=" + rests[i] + ";", word.length() + 2 + rests[i].length());
            dueFault(word + "=" + rests[i] + ";;", word.length() + 2 + rests[i].length());
            dueFault(word + "=" + rests[i] + ";" + word + "=" + rests[i], NONE);
        }
        dueFault("jarr=a", 3);
        dueFault("rult=a", 3);
        dueFault("jule=a", 1);
        dueFault("jar=a" + (char) 0, 5);
        dueFault("jar" + (char) 0, 3);
        dueFault("jar=a" + (char) ('a' + 256), 5);
    }

    private static void faultOfMixes() {
        promise = 13;
        dueFault("jar=abcdefgh", NONE);
        dueFault("jar=hgfedcba", NONE);
        dueFault("jar=i", 4);
        dueFault("jar=A", 4);
        dueFault("jar=1", 4);
        dueFault("jar=ai", 5);
        dueFault("jar=a1", NONE);
        dueFault("jar=a9b9a9", NONE);
        dueFault("jar=a0", 5);
        dueFault("jar=a11", 6);
        dueFault("jar=a1a1b", NONE);
        dueFault("jar=a>", 5);
        dueFault("rule=`", 5);
        dueFault("want=a:", 6);
        dueFault("jar=a/", 5);
        StringBuilder full = new StringBuilder("jar=");
        while (full.length() < 60) {
            full.append(full.length() % 2 == 0 ? 'h' : '9');
        }
        dueFault(full.toString(), NONE);
        full.setLength(59);
        dueFault(full + ";", 60);
        dueFault(full + "=", 59);
    }

    private static void faultOfNumbers() {
        promise = 13;
        dueFault("drop=9", NONE);
        dueFault("drop=a", 5);
        dueFault("drop=00", 6);
        dueFault("drop=12", 6);
        dueFault("drop=/", 5);
        dueFault("drop=:", 5);
        for (int number = 0; number < 200; number++) {
            dueFault("more=" + number, NONE);
            dueFault("pour=" + number + ">" + number, NONE);
        }
        for (int number = 200; number < 2000; number++) {
            dueFault("more=" + number, number < 1000 ? 7 : 8);
        }
        dueFault("more=01", 6);
        dueFault("more=00", 6);
        dueFault("more=1999", 8);
        dueFault("more=-1", 5);
        dueFault("more=1>2", 6);
        dueFault("pour=1", 6);
        dueFault("pour=1;", 6);
        dueFault("pour=1=2", 6);
        dueFault("pour=1>", 7);
        dueFault("pour=>1", 5);
        dueFault("pour=1>>2", 7);
        dueFault("pour=01>2", 6);
        dueFault("pour=200>2", 7);
        dueFault("pour=2>200", 9);
        dueFault("pour=2>01", 8);
        dueFault("pour=1>2>3", 8);
        dueFault("pour=199>199;more=199;jar=a;drop=9;want=b2;rule=c", NONE);
    }

    private static void doAll() {
        promise = 14;
        SpiceThrees x = new SpiceThrees();
        write(x, "jar=ab2cc;jar=a9;jar=a4b;rule=h9;rule=ab4;want=aaac2");
        due("doAll()", x.doAll(), 6);
        due("count(16)", x.count(16), 1);
        due("jarOf(0, 0)", x.jarOf(0, 0), 1 + 6 + 18);
        due("jarOf(1, 0)", x.jarOf(1, 0), 0);
        due("jarOf(2, 0)", x.jarOf(2, 0), 4);
        due("count(7)", x.count(7), 5 + 9 + 5);
        due("count(8)", x.count(8), 9 + 3);
        due("count(12)", x.count(12), 1 + 4 + 6 + 9 + 4 + 2);
        due("ruleOf(0)", x.ruleOf(0), 0);
        due("ruleOf(1)", x.ruleOf(1), 4);
        due("waiting(0)", x.waiting(0), 18);
        due("the text stays", x.count(17), 52);
        write(x, "pour=1>0;more=1;pour=0>2;drop=0;more=2");
        due("doAll()", x.doAll(), 5);
        due("jarOf(0, 0)", x.jarOf(0, 0), 0);
        due("jarOf(2, 0)", x.jarOf(2, 0), 1 + 9);
        due("ruleOf(0)", x.ruleOf(0), 4);
        due("count(16)", x.count(16), 2);
        write(x, "more=0");
        due("doAll() of an order that does nothing", x.doAll(), 1);
        due("count(16)", x.count(16), 3);
        due("undo()", x.undo(), 2);
        due("undo()", x.undo(), 1);
        due("jarOf(0, 0)", x.jarOf(0, 0), 25);
        due("undo()", x.undo(), 0);
        due("count(0)", x.count(0), 0);
        write(x, "jar=a;jar=b;pour=0>1;more=1");
        due("numbers of jars that came in the same text", x.doAll(), 4);
        due("jarOf(1, 0)", x.jarOf(1, 0), 8);
    }

    private static void doAllErrors() {
        promise = 14;
        SpiceThrees x = new SpiceThrees();
        due("doAll() of the empty text", x.doAll(), -100);
        write(x, "jar=a;jar=");
        due("doAll() of a fault", x.doAll(), -110);
        due("count(0)", x.count(0), 0);
        due("count(16)", x.count(16), 0);
        x.jar(5);
        x.jar(7);
        String before = told(x);
        String[] texts = {"jar=a;more=3;drop=0", "pour=0>1;pour=0>0", "drop=0", "pour=2>2;more=9",
            "rule=a;drop=1", "more=0;want=a;pour=1>7"};
        int[] errors = {UNKNOWN, BAD_VALUE, UNKNOWN, UNKNOWN, UNKNOWN, UNKNOWN};
        for (int i = 0; i < texts.length; i++) {
            write(x, texts[i]);
            due("doAll() of " + texts[i], x.doAll(), errors[i]);
            due("nothing of it done: " + texts[i], told(x).equals(before) ? 1 : 0, 1);
            due("count(16)", x.count(16), 2);
        }
        write(x, "pour=0>0;more=9");
        due("the first error of two", x.doAll(), BAD_VALUE);
        for (int i = 2; i < 12; i++) {
            x.jar(i);
        }
        write(x, "more=0;jar=a");
        due("doAll() without room", x.doAll(), FULL);
        due("jarOf(0, 0)", x.jarOf(0, 0), 5);
        for (int i = 0; i < 8; i++) {
            x.rule(i);
            x.want(i);
        }
        write(x, "want=a");
        due("doAll() with too many customers", x.doAll(), FULL);
        write(x, "rule=a");
        due("doAll() with too many rules", x.doAll(), FULL);
        write(x, "drop=7;rule=a");
        due("doAll()", x.doAll(), 2);
        due("ruleOf(7)", x.ruleOf(7), 1);
    }

    private static void undo() {
        promise = 15;
        SpiceThrees x = new SpiceThrees();
        String[] states = new String[6];
        for (int i = 0; i < 6; i++) {
            states[i] = told(x);
            x.jar(i + 1);
            due("count(16)", x.count(16), Math.min(i + 1, 4));
        }
        for (int i = 5; i >= 2; i--) {
            due("undo()", x.undo(), i - 2);
            due("the state before jar " + i, told(x).equals(states[i]) ? 1 : 0, 1);
        }
        due("undo() without a state", x.undo(), NONE);
        due("the state before jar 2", told(x).equals(states[2]) ? 1 : 0, 1);
        due("jar(5)", x.jar(5), 2);
        due("undo()", x.undo(), 0);
        write(x, "jar");
        due("the text is no part of a state", x.count(17), 3);
        x.jar(1);
        x.type('=');
        x.undo();
        due("the text is no part of a state", x.count(17), 4);
    }

    private static void recordedActs() {
        promise = 15;
        SpiceThrees x = new SpiceThrees();
        for (int act = 0; act < 11; act++) {
            x = new SpiceThrees();
            x.jar(5);
            x.jar(7);
            x.rule(9);
            x.want(5);
            x.keep();
            x.undo();
            x.undo();
            write(x, "jar=a;rule=b");
            String before = told(x);
            int states = x.count(16);
            int answer = oneAct(x, act);
            due("act " + act + " is done", answer >= 0 ? 1 : 0, 1);
            due("states after act " + act, x.count(16), states + 1);
            due("undo of act " + act, x.undo(), states);
            due("state after undo of act " + act, told(x).equals(before) ? 1 : 0, 1);
        }
    }

    private static int oneAct(SpiceThrees x, int act) {
        switch (act) {
            case 0:
                return x.jar(8);
            case 1:
                return x.pour(0, 1);
            case 2:
                return x.more(1);
            case 3:
                return x.throwAway(0);
            case 4:
                return x.rule(0);
            case 5:
                return x.price(7, 0);
            case 6:
                return x.price(3, 77);
            case 7:
                return x.want(0);
            case 8:
                return x.doAll();
            case 9:
                return x.restore();
            default:
                return x.price(0, 0);
        }
    }

    private static void unrecordedCalls() {
        promise = 15;
        SpiceThrees x = new SpiceThrees();
        x.jar(0);
        x.jar(5);
        String before = told(x);
        x.jar(-1);
        x.pour(0, 1);
        x.pour(0, 0);
        x.pour(0, 9);
        x.more(0);
        x.more(9);
        x.throwAway(9);
        x.rule(-1);
        x.drop(0);
        x.price(0, 1);
        x.price(0, 100);
        x.price(8, 1);
        x.want(-1);
        x.serve();
        x.doAll();
        x.restore();
        x.keep();
        x.type('a');
        x.clearText();
        x.fault();
        x.fewest(5, 1);
        x.makes();
        x.needless();
        x.ifPoured(0, 1);
        due("count(16)", x.count(16), 2);
        due("nothing is changed", told(x).equals(before) ? 1 : 0, 1);
        due("undo()", x.undo(), 1);
        due("count(0)", x.count(0), 1);
    }

    private static void keepAndRestore() {
        promise = 16;
        SpiceThrees x = new SpiceThrees();
        due("restore()", x.restore(), NONE);
        due("keep()", x.keep(), 0);
        x.jar(5);
        x.rule(5);
        x.want(5);
        due("keep()", x.keep(), 1);
        due("count(16)", x.count(16), 3);
        String kept = told(x);
        x.price(0, 50);
        x.serve();
        x.drop(0);
        String later = told(x);
        write(x, "jar");
        promise = 17;
        due("restore()", x.restore(), 1);
        due("the snapshot", told(x).equals(kept) ? 1 : 0, 1);
        due("the text stays", x.count(17), 3);
        due("count(16)", x.count(16), 4);
        due("undo()", x.undo(), 3);
        due("the state before", told(x).equals(later) ? 1 : 0, 1);
        due("restore() once more, as the snapshot stays", x.restore(), 1);
        due("the snapshot", told(x).equals(kept) ? 1 : 0, 1);
        due("restore() without a change is an act", x.restore(), 1);
        x.jar(1);
        due("the jar that came after does not reach the snapshot", x.restore(), 1);
        due("the snapshot", told(x).equals(kept) ? 1 : 0, 1);
        due("undo()", x.undo(), 3);
        due("undo() leaves the snapshot", x.undo(), 2);
        due("undo() leaves the snapshot", x.undo(), 1);
        due("restore()", x.restore(), 1);
        SpiceThrees y = new SpiceThrees();
        y.keep();
        y.jar(3);
        due("restore() of a shop without jars", y.restore(), 0);
        due("count(16)", y.count(16), 2);
        due("undo()", y.undo(), 1);
        due("count(0)", y.count(0), 1);
    }

    private static void jarOf() {
        promise = 18;
        SpiceThrees x = new SpiceThrees();
        x.jar(27);
        x.jar(2 + 3 + 2 * 9);
        due("jarOf(2, 0)", x.jarOf(2, 0), UNKNOWN);
        due("jarOf(-1, 0)", x.jarOf(-1, 0), UNKNOWN);
        due("jarOf(2, 7)", x.jarOf(2, 7), UNKNOWN);
        due("jarOf(1, 7)", x.jarOf(1, 7), BAD_VALUE);
        due("jarOf(1, -1)", x.jarOf(1, -1), BAD_VALUE);
        x.rule(9 + 2 * 3);
        int[] told = {23, 5, 2 + 2 + 6, 2, 0, 2, 2};
        for (int what = 0; what < told.length; what++) {
            due("jarOf(1, " + what + ")", x.jarOf(1, what), told[what]);
        }
        x.rule(2 + 2 * 27);
        x.price(0, 9);
        x.price(3, 2);
        int[] later = {27, 1, 2, 2, 0, 27, 2};
        for (int what = 0; what < later.length; what++) {
            due("jarOf(0, " + what + ")", x.jarOf(0, what), later[what]);
        }
        due("jarOf(1, 5), two of spice 0 and three of spice 1", x.jarOf(1, 5), 27);
        x.rule(27);
        due("jarOf(0, 4)", x.jarOf(0, 4), 1);
        due("jarOf(0, 3)", x.jarOf(0, 3), 0);
        due("jarOf(0, 5)", x.jarOf(0, 5), 0);
        due("jarOf(0, 6)", x.jarOf(0, 6), 0);
        x.jar(0);
        due("jarOf(2, 4), an empty jar", x.jarOf(2, 4), 1);
    }

    private static void ranked() {
        promise = 19;
        SpiceThrees x = new SpiceThrees();
        due("ranked(0)", x.ranked(0), NONE);
        due("ranked(-1)", x.ranked(-1), BAD_VALUE);
        x.jar(9);
        x.jar(1);
        x.jar(5);
        x.throwAway(1);
        due("ranked(0)", x.ranked(0), 0);
        due("ranked(1)", x.ranked(1), 2);
        due("ranked(2)", x.ranked(2), NONE);
        due("ranked(max)", x.ranked(Integer.MAX_VALUE), NONE);
        due("ranked(min)", x.ranked(Integer.MIN_VALUE), BAD_VALUE);
    }

    private static void ruleOf() {
        promise = 20;
        SpiceThrees x = new SpiceThrees();
        due("ruleOf(0)", x.ruleOf(0), UNKNOWN);
        x.rule(6560);
        x.rule(0);
        due("ruleOf(0)", x.ruleOf(0), 6560);
        due("ruleOf(1)", x.ruleOf(1), 0);
        due("ruleOf(2)", x.ruleOf(2), UNKNOWN);
        due("ruleOf(-1)", x.ruleOf(-1), UNKNOWN);
        due("ruleOf(max)", x.ruleOf(Integer.MAX_VALUE), UNKNOWN);
    }

    private static void mixOf() {
        promise = 21;
        SpiceThrees x = new SpiceThrees();
        due("mixOf(-1, 0)", x.mixOf(-1, 0), BAD_VALUE);
        due("mixOf(6561, 0)", x.mixOf(6561, 0), BAD_VALUE);
        due("mixOf(0, -1)", x.mixOf(0, -1), BAD_VALUE);
        due("mixOf(0, 7)", x.mixOf(0, 7), BAD_VALUE);
        int[] full = {16, 72, 6560, 0, 6560, 3280, 0};
        int[] empty = {0, 0, 0, 1, 0, 0, 0};
        for (int what = 0; what < 7; what++) {
            due("mixOf(6560, " + what + ")", x.mixOf(6560, what), full[what]);
            due("mixOf(0, " + what + ")", x.mixOf(0, what), empty[what]);
        }
        x.rule(2187 + 2);
        x.jar(2187);
        x.jar(1);
        x.jar(2);
        int[] told = {1, 8, 1, 0, 1, 4374, 2};
        for (int what = 0; what < 7; what++) {
            due("mixOf(2187, " + what + ")", x.mixOf(2187, what), told[what]);
        }
        x.price(7, 0);
        due("mixOf(1, 4), now that spice 7 is cheap", x.mixOf(1, 4), 2187);
        x.price(0, 0);
        due("mixOf(2187, 4), of several the least number", x.mixOf(2187, 4), 1);
    }

    private static void together() {
        promise = 22;
        SpiceThrees x = new SpiceThrees();
        due("together(-1, 0)", x.together(-1, 0), BAD_VALUE);
        due("together(0, -1)", x.together(0, -1), BAD_VALUE);
        due("together(6561, 0)", x.together(6561, 0), BAD_VALUE);
        due("together(0, 6561)", x.together(0, 6561), BAD_VALUE);
        due("together(0, 0)", x.together(0, 0), 0);
        due("together(6560, 6560)", x.together(6560, 6560), 3280);
        due("together(6560, 3280)", x.together(6560, 3280), 0);
        for (int one = 0; one < 6561; one += 13) {
            x = new SpiceThrees();
            for (int other = 0; other < 6561; other += 17) {
                due("together(" + one + ", " + other + ")", x.together(one, other), sum(one, other));
            }
        }
    }

    private static int sum(int one, int other) {
        int mix = 0;
        for (int unit = 1; unit < 6561; unit *= 3) {
            mix += (one / unit + other / unit) % 3 * unit;
        }
        return mix;
    }

    private static void alike() {
        promise = 23;
        SpiceThrees x = new SpiceThrees();
        boolean[] ways = {true, false};
        for (boolean all : ways) {
            due("alike(-1, 0)", x.alike(-1, 0, all), BAD_VALUE);
            due("alike(0, -1)", x.alike(0, -1, all), BAD_VALUE);
            due("alike(6561, 0)", x.alike(6561, 0, all), BAD_VALUE);
            due("alike(0, 6561)", x.alike(0, 6561, all), BAD_VALUE);
        }
        x.rule(1 + 2 * 243);
        x.rule(3 + 9);
        for (boolean all : ways) {
            due("alike(7, 7)", x.alike(7, 7, all), 1);
            due("alike(7, 8)", x.alike(7, 8, all), 0);
            due("alike(243, 1)", x.alike(243, 1, all), 1);
            due("alike(1, 243)", x.alike(1, 243, all), 1);
            due("alike(9, 6)", x.alike(9, 6, all), 1);
            due("alike(9, 3)", x.alike(9, 3, all), 0);
            due("alike(243 + 9, 1 + 6)", x.alike(252, 7, all), 1);
            due("alike(0, 6560)", x.alike(0, 6560, all), 0);
        }
        x.drop(1);
        for (boolean all : ways) {
            due("alike(9, 6)", x.alike(9, 6, all), 0);
            due("alike(243, 1)", x.alike(243, 1, all), 1);
        }
    }

    /** With eight rules that say each something new every mix is bland; with seven one in three is. */
    private static void allBland() {
        promise = 23;
        SpiceThrees x = new SpiceThrees();
        x.jar(6560);
        int unit = 1;
        for (int spice = 0; spice < 8; spice++) {
            due("rule", x.rule(unit + (spice == 7 ? 0 : 2 * 3 * unit)), spice + 1);
            unit *= 3;
        }
        due("count(3)", x.count(3), 6561);
        due("count(4)", x.count(4), 1);
        for (int mix = 0; mix < 6561; mix += 61) {
            due("alike(" + mix + ", 5, true)", x.alike(mix, 5, true), 1);
            due("alike(" + mix + ", 5, false)", x.alike(mix, 5, false), 1);
        }
        due("jarOf(0, 5)", x.jarOf(0, 5), 0);
        due("jarOf(0, 6)", x.jarOf(0, 6), 0);
        due("mixOf(6559, 4)", x.mixOf(6559, 4), 0);
        due("drop(7)", x.drop(7), 7);
        due("count(3)", x.count(3), 2187);
        due("count(4)", x.count(4), 3);
        for (int mix = 0; mix < 6561; mix += 61) {
            int same = sumOfUnits(mix) % 3 == 1 ? 1 : 0;
            due("alike(" + mix + ", 9, true)", x.alike(mix, 9, true), same);
            due("alike(" + mix + ", 9, false)", x.alike(mix, 9, false), same);
        }
        due("jarOf(0, 3)", x.jarOf(0, 3), 1);
        due("jarOf(0, 5)", x.jarOf(0, 5), 1);
        x.price(0, 9);
        due("jarOf(0, 5)", x.jarOf(0, 5), 3);
        due("mixOf(2, 4), of two units of b and one of d the cheaper", x.mixOf(2, 4), 6);
    }

    private static int sumOfUnits(int mix) {
        int units = 0;
        for (int rest = mix; rest > 0; rest /= 3) {
            units += rest % 3;
        }
        return units;
    }

    private static void shelf() {
        promise = 24;
        SpiceThrees x = new SpiceThrees();
        due("shelf(0, 0)", x.shelf(0, 0), NONE);
        due("shelf(0, 4)", x.shelf(0, 4), BAD_VALUE);
        due("shelf(0, -1)", x.shelf(0, -1), BAD_VALUE);
        due("shelf(-1, 0)", x.shelf(-1, 0), BAD_VALUE);
        due("shelf(max, 3)", x.shelf(Integer.MAX_VALUE, 3), NONE);
        x.jar(81);
        x.jar(9);
        x.jar(1);
        x.jar(3 * 2);
        x.jar(9);
        x.jar(9);
        x.throwAway(1);
        x.rule(9 + 3);
        int[][] shelves = {{1, 1, 2, 2}, {6, 3, 3, 4}, {81, 1, 0, 0}};
        x.price(2, 3);
        x.price(1, 4);
        for (int rank = 0; rank < 3; rank++) {
            for (int what = 0; what < 4; what++) {
                due("shelf(" + rank + ", " + what + ")", x.shelf(rank, what), shelves[rank][what]);
            }
        }
        due("shelf(3, 0)", x.shelf(3, 0), NONE);
        due("shelf(3, 4)", x.shelf(3, 4), BAD_VALUE);
        due("count(5)", x.count(5), 3);
        x.price(2, 8);
        due("shelf(1, 3), of several the lowest", x.shelf(1, 3), 3);
        x.rule(81 + 2);
        due("shelf(0, 0)", x.shelf(0, 0), 1);
        due("shelf(0, 1)", x.shelf(0, 1), 2);
        due("shelf(0, 2)", x.shelf(0, 2), 0);
        due("shelf(0, 3)", x.shelf(0, 3), 2);
        due("shelf(2, 0)", x.shelf(2, 0), NONE);
    }

    private static void waiting() {
        promise = 25;
        SpiceThrees x = new SpiceThrees();
        due("waiting(0)", x.waiting(0), NONE);
        due("waiting(-1)", x.waiting(-1), BAD_VALUE);
        x.rule(5);
        x.want(5);
        x.want(0);
        x.want(6560);
        due("waiting(0), as it was told", x.waiting(0), 5);
        due("waiting(1)", x.waiting(1), 0);
        due("waiting(2)", x.waiting(2), 6560);
        due("waiting(3)", x.waiting(3), NONE);
        due("waiting(max)", x.waiting(Integer.MAX_VALUE), NONE);
        x.serve();
        due("waiting(0)", x.waiting(0), 0);
        due("waiting(2)", x.waiting(2), NONE);
    }

    private static void count() {
        promise = 26;
        SpiceThrees x = new SpiceThrees();
        due("count(-1)", x.count(-1), BAD_VALUE);
        due("count(18)", x.count(18), BAD_VALUE);
        x.jar(1 + 2 * 3);
        x.jar(9);
        x.jar(9);
        x.more(0);
        x.rule(2);
        x.rule(4);
        x.rule(1);
        x.want(9);
        x.want(27);
        x.want(0);
        x.serve();
        x.serve();
        x.throwAway(2);
        write(x, "jar");
        int[] counts = {1, 3, 2, 9, 729, 1, 1, 8, 3, 1, 1, 3, 16, 4, 1, 1, 4, 3};
        for (int what = 0; what < counts.length; what++) {
            due("count(" + what + ")", x.count(what), counts[what]);
        }
    }

    private static void lost() {
        promise = 27;
        SpiceThrees x = new SpiceThrees();
        dueD("lost()", x.lost(), 0.0);
        x.jar(0);
        dueD("lost()", x.lost(), 0.0);
        x.jar(8);
        dueD("lost()", x.lost(), 0.0);
        x.jar(1);
        x.pour(2, 1);
        dueD("lost()", x.lost(), 3.0 / 5.0);
        x.jar(5);
        x.throwAway(3);
        dueD("lost()", x.lost(), 3.0 / 8.0);
    }

    private static void fewest() {
        promise = 28;
        SpiceThrees x = new SpiceThrees();
        due("fewest(-1, 0)", x.fewest(-1, 0), BAD_VALUE);
        due("fewest(6561, 0)", x.fewest(6561, 0), BAD_VALUE);
        due("fewest(0, 2)", x.fewest(0, 2), BAD_VALUE);
        due("fewest(0, -1)", x.fewest(0, -1), BAD_VALUE);
        due("fewest(0, 0), no jars", x.fewest(0, 0), 0);
        due("fewest(0, 1), no jars", x.fewest(0, 1), 0);
        due("fewest(1, 0), no jars", x.fewest(1, 0), NONE);
        due("fewest(1, 1), no jars", x.fewest(1, 1), NONE);
        x.jar(27);
        x.throwAway(0);
        x.jar(1);
        x.jar(3);
        x.jar(4);
        x.jar(3);
        due("fewest(1, 1)", x.fewest(1, 1), 1);
        due("fewest(4, 0)", x.fewest(4, 0), 1);
        due("fewest(4, 1), by ranks", x.fewest(4, 1), 4);
        due("fewest(7, 0)", x.fewest(7, 0), 2);
        due("fewest(7, 1), the least of several sets", x.fewest(7, 1), 6);
        due("fewest(3, 1)", x.fewest(3, 1), 2);
        due("fewest(6, 0)", x.fewest(6, 0), 2);
        due("fewest(6, 1)", x.fewest(6, 1), 10);
        due("fewest(2, 0), threes cancel", x.fewest(2, 0), 4);
        due("fewest(2, 1), threes cancel", x.fewest(2, 1), 15);
        due("fewest(9, 0)", x.fewest(9, 0), NONE);
        x.rule(9 + 3);
        due("fewest(9, 0), by the taste", x.fewest(9, 0), 2);
        due("fewest(9, 1), by the taste", x.fewest(9, 1), 10);
        due("fewest(9 + 3, 0), bland", x.fewest(12, 0), 0);
        due("fewest(9 + 3, 1), bland", x.fewest(12, 1), 0);
        due("fewest(9 + 4, 0)", x.fewest(13, 0), 1);
        SpiceThrees y = new SpiceThrees();
        int[] jars = {1, 1, 3, 3, 9, 9, 27, 27, 81, 243, 729, 2187};
        for (int jar : jars) {
            y.jar(jar);
        }
        due("fewest of all twelve, 0", y.fewest(80 + 3240, 0), 12);
        due("fewest of all twelve, 1", y.fewest(80 + 3240, 1), 4095);
        due("fewest of eleven, 0", y.fewest(80 + 3240 - 81, 0), 11);
        due("fewest of eleven, 1", y.fewest(80 + 3240 - 81, 1), 4095 - 256);
    }

    private static void makes() {
        promise = 29;
        SpiceThrees x = new SpiceThrees();
        due("makes() of no jars", x.makes(), 1);
        x.jar(0);
        due("makes()", x.makes(), 1);
        x.jar(1);
        due("makes()", x.makes(), 2);
        x.jar(1);
        due("makes()", x.makes(), 3);
        x.jar(2);
        due("makes()", x.makes(), 3);
        x.jar(9);
        due("makes()", x.makes(), 6);
        x.rule(9);
        due("makes()", x.makes(), 3);
        x.undo();
        for (int mix = 27; mix < 6561; mix *= 3) {
            x.jar(mix);
        }
        due("makes()", x.makes(), 3 * 2 * 32);
        SpiceThrees y = new SpiceThrees();
        y.jar(6560);
        y.jar(6559);
        due("makes() of the greatest tastes", y.makes(), 4);
    }

    private static void needless() {
        promise = 30;
        SpiceThrees x = new SpiceThrees();
        due("needless()", x.needless(), NONE);
        x.rule(1);
        due("needless()", x.needless(), NONE);
        x.rule(3);
        due("needless()", x.needless(), NONE);
        x.rule(0);
        due("needless(), the empty mix", x.needless(), 2);
        x.drop(2);
        x.rule(6);
        due("needless(), of several the lowest", x.needless(), 1);
        x.rule(2);
        due("needless()", x.needless(), 0);
        due("needless() drops nothing", x.count(1), 4);
        x.drop(1);
        x.drop(1);
        x.rule(9 + 3);
        x.rule(9 + 2 * 3);
        due("needless()", x.needless(), 0);
        x.drop(0);
        due("needless()", x.needless(), NONE);
    }

    private static void ifPoured() {
        promise = 31;
        SpiceThrees x = new SpiceThrees();
        x.jar(1 + 2 * 9);
        x.jar(2 + 9);
        x.jar(0);
        due("ifPoured(0, 3)", x.ifPoured(0, 3), UNKNOWN);
        due("ifPoured(3, 0)", x.ifPoured(3, 0), UNKNOWN);
        due("ifPoured(3, 3)", x.ifPoured(3, 3), UNKNOWN);
        due("ifPoured(-1, -1)", x.ifPoured(-1, -1), UNKNOWN);
        due("ifPoured(0, 0)", x.ifPoured(0, 0), BAD_VALUE);
        due("ifPoured(0, 1)", x.ifPoured(0, 1), 0);
        due("ifPoured(0, 2)", x.ifPoured(0, 2), 19);
        due("ifPoured(2, 0), an empty jar", x.ifPoured(2, 0), 19);
        x.rule(9);
        due("ifPoured(0, 2)", x.ifPoured(0, 2), 1);
        due("nothing is poured", x.jarOf(2, 0), 0);
        due("count(16)", x.count(16), 4);
    }
}

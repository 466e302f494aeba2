import java.io.IOException;
import java.nio.file.Files;
import java.nio.file.Path;
import java.util.ArrayList;
import java.util.List;

/**
 * What the tests of boundaries share. Each test says first which sentence of the document it is for,
 * and the sentence is looked for in the document, so that no test is for words that don't stand there.
 * No object is asked more than 512 times, as nothing is promised behind that: looks take new objects.
 */
final class Bounds {
    static final int UNKNOWN = -1;
    static final int BAD_VALUE = -2;
    static final int FULL = -3;
    static final int NONE = -5;

    /** Just outside 0 to 6560, further out, and such as would be mixes if they were cut to 16 bits. */
    static final int[] NO_MIXES = {-1, 6561, -2, 6562, 65536, 65537, -65536, 131072, Integer.MIN_VALUE, Integer.MAX_VALUE};
    /** The ends of 0 to 6560, and one step inside. */
    static final int[] END_MIXES = {0, 1, 6559, 6560};

    private static final Path DOCUMENT = Path.of("../shared/DOC.md");
    private static final String ASKED_MOST = "What it is";
    private static final String TERMS = "Terms";
    private static final List<String> TESTED = new ArrayList<>();
    private static String document = "";
    private static String sentence = "";
    private static int wrong = 0;

    private Bounds() {
    }

    interface Calls {
        void on(SpiceThrees x);
    }

    interface Call {
        long on(SpiceThrees x);
    }

    interface CallWith {
        long on(SpiceThrees x, int value);
    }

    // ---- sentences

    static void promise(int number, String words) {
        begin("Promise " + number, words);
    }

    static void terms(String words) {
        begin(TERMS, words);
    }

    static void whole(String words) {
        begin(ASKED_MOST, words);
    }

    private static void begin(String part, String words) {
        sentence = part + ", \"" + words + "\"";
        TESTED.add(part + "\n" + words);
        if (!document().isEmpty() && !partOf(part).contains(words)) {
            wrong(sentence + " does not stand in the document");
        }
    }

    private static String document() {
        if (document.isEmpty() && Files.isReadable(DOCUMENT)) {
            try {
                document = Files.readString(DOCUMENT);
            } catch (IOException e) {
                wrong("the document can't be read: " + e);
            }
        }
        return document;
    }

    /** The part of the document below a heading. */
    private static String partOf(String heading) {
        int start = document().indexOf("\n## " + heading);
        if (start < 0) {
            return "";
        }
        int from = document().indexOf('\n', start + 1);
        int end = document().indexOf("\n## ", from);
        return document().substring(from, end < 0 ? document().length() : end);
    }

    /** Every sentence of the terms and of the promises 1 to 31 has a test. */
    static void allSentencesAreTested() {
        sentence = "the whole document";
        if (document().isEmpty()) {
            return;
        }
        testedIn(TERMS);
        for (int number = 1; number <= 31; number++) {
            testedIn("Promise " + number + ":");
        }
    }

    private static void testedIn(String heading) {
        String part = heading.replace(":", "");
        for (String line : partOf(heading).split("\n")) {
            if (line.startsWith("Ahead of the calls") || line.equals(line.toUpperCase())) {
                continue;
            }
            for (String words : line.split("(?<=[.;]) ")) {
                String bare = words.replaceAll("^[(]|^- |^`(int|double|SpiceThrees)[^`]*`: |[.;:)]+$", "");
                if (!bare.isBlank() && !bare.startsWith("- `") && !isTested(part, bare)) {
                    wrong("no test is for " + part + ", \"" + bare + "\"");
                }
            }
        }
    }

    private static boolean isTested(String part, String words) {
        for (String tested : TESTED) {
            String of = tested.substring(0, tested.indexOf('\n'));
            String what = tested.substring(tested.indexOf('\n') + 1);
            if (of.equals(part) && (what.contains(words) || words.contains(what))) {
                return true;
            }
        }
        return false;
    }

    // ---- answers

    static void due(String call, double got, double want) {
        if (got != want) {
            wrong(sentence + ": " + call + " answered " + shown(got) + ", due is " + shown(want));
        }
    }

    private static String shown(double number) {
        return number == (long) number ? Long.toString((long) number) : Double.toString(number);
    }

    static void same(String what, String got, String want) {
        if (!got.equals(want)) {
            wrong(sentence + ": " + what + " is\n    " + got + "\n  due is\n    " + want);
        }
    }

    static void differs(String what, String got, String other) {
        if (got.equals(other)) {
            wrong(sentence + ": " + what + " is still " + got);
        }
    }

    private static void wrong(String fault) {
        wrong++;
        System.out.println(fault);
    }

    static void report() {
        System.out.println(wrong == 0 ? TESTED.size() + " sentences hold at their boundaries"
            : wrong + " answers are not as due");
        if (wrong != 0) {
            System.exit(1);
        }
    }

    // ---- shops

    static SpiceThrees made(Calls calls) {
        SpiceThrees x = new SpiceThrees();
        calls.on(x);
        return x;
    }

    static void write(SpiceThrees x, String text) {
        x.clearText();
        for (int i = 0; i < text.length(); i++) {
            x.type(text.charAt(i));
        }
    }

    /** Makes shops with these jars, 0 and on. */
    static Calls jars(int... mixes) {
        return x -> {
            for (int mix : mixes) {
                x.jar(mix);
            }
        };
    }

    static String jarsTold(SpiceThrees x) {
        StringBuilder all = new StringBuilder();
        for (int rank = 0; x.ranked(rank) >= 0; rank++) {
            all.append(rank == 0 ? "" : " ").append(x.ranked(rank)).append(':').append(x.jarOf(x.ranked(rank), 0));
        }
        return all.toString();
    }

    static String rulesTold(SpiceThrees x) {
        StringBuilder all = new StringBuilder();
        for (int rule = 0; x.ruleOf(rule) >= 0; rule++) {
            all.append(rule == 0 ? "" : " ").append(x.ruleOf(rule));
        }
        return all.toString();
    }

    static String waitingTold(SpiceThrees x) {
        StringBuilder all = new StringBuilder();
        for (int rank = 0; x.waiting(rank) >= 0; rank++) {
            all.append(rank == 0 ? "" : " ").append(x.waiting(rank));
        }
        return all.toString();
    }

    /** By count: bought, cancelled, sold, thrown away, in jars, paid, taken, served, let go. */
    static String accountsTold(SpiceThrees x) {
        StringBuilder all = new StringBuilder();
        for (int what = 7; what <= 15; what++) {
            all.append(what == 7 ? "" : " ").append(x.count(what));
        }
        return all.toString();
    }

    static String pricesTold(SpiceThrees x) {
        StringBuilder all = new StringBuilder();
        for (int unit = 1; unit < 6561; unit *= 3) {
            all.append(unit == 1 ? "" : " ").append(x.mixOf(unit, 1));
        }
        return all.toString();
    }

    /** All that a state is. */
    static String stateTold(SpiceThrees x) {
        return "jars " + jarsTold(x) + ", rules " + rulesTold(x) + ", prices " + pricesTold(x)
            + ", waiting " + waitingTold(x) + ", accounts " + accountsTold(x);
    }

    /** Some hundred calls. */
    private static String allTold(SpiceThrees x) {
        StringBuilder counts = new StringBuilder();
        for (int what : new int[] {0, 1, 2, 3, 4, 5, 6, 16, 17}) {
            counts.append(x.count(what)).append(' ');
        }
        return stateTold(x) + ", counts " + counts + "lost " + x.lost() + ", fault " + x.fault()
            + ", makes " + x.makes() + ", needless " + x.needless();
    }

    // ---- calls that change nothing

    /**
     * The call answers so, and no later call shows that it was made: not what is told, not the states of the
     * history, the snapshot, the text or the next jar's number. It is tried again behind calls that fill the history.
     */
    static void refused(int want, String call, Calls before, Call then) {
        refusedOnce(want, call, before, then);
        refusedOnce(want, call + " behind more calls", x -> {
            before.on(x);
            fillHistory(x);
        }, then);
    }

    /** Four acts that leave the state as it is, and a snapshot of another state. */
    private static void fillHistory(SpiceThrees x) {
        int price = x.mixOf(2187, 1);
        x.price(7, (price + 1) % 100);
        x.keep();
        x.price(7, price);
        x.price(7, (price + 2) % 100);
        x.price(7, price);
    }

    static void refusedOnce(int want, String call, Calls before, Call then) {
        SpiceThrees untouched = made(before);
        SpiceThrees touched = made(before);
        due(call, then.on(touched), want);
        same("what is told after " + call, allTold(touched), allTold(untouched));
        for (int steps = 1; steps <= 5; steps++) {
            int times = steps;
            look("after " + call + " and " + steps + " times undo()", before, then, x -> undone(x, times));
        }
        look("after " + call + " and restore()", before, then, SpiceThrees::restore);
        look("after " + call + " and jar(0)", before, then, x -> x.jar(0));
        look("after " + call + " and doAll()", before, then, SpiceThrees::doAll);
        look("after " + call + " and type", before, then, x -> x.type('a'));
    }

    private static int undone(SpiceThrees x, int times) {
        int answer = 0;
        for (int step = 0; step < times; step++) {
            answer = x.undo();
        }
        return answer;
    }

    private static void look(String when, Calls before, Call then, Call later) {
        SpiceThrees untouched = made(before);
        SpiceThrees touched = made(before);
        then.on(touched);
        due("the last call " + when, later.on(touched), later.on(untouched));
        same("what is told " + when, allTold(touched), allTold(untouched));
    }

    /** Each of the values is refused. */
    static void refusedFor(int[] values, int want, String call, Calls before, CallWith then) {
        for (int value : values) {
            refused(want, call.replace("_", Integer.toString(value)), before, x -> then.on(x, value));
        }
    }

    /** Each of the values is answered, and not with an error. */
    static void taken(int[] values, String call, Calls before, CallWith then) {
        for (int value : values) {
            long answer = then.on(made(before), value);
            due("whether " + call.replace("_", Integer.toString(value)) + " is taken", answer >= 0 ? 1 : 0, 1);
        }
    }
}

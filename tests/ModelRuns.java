import java.util.ArrayDeque;
import java.util.ArrayList;
import java.util.Arrays;
import java.util.Deque;
import java.util.List;
import java.util.TreeMap;
import java.util.TreeSet;
import java.util.regex.Matcher;
import java.util.regex.Pattern;

/** Long mixed runs of calls, compared with a model that is built in another, slower way. */
public final class ModelRuns {
    private static final int UNKNOWN = -1;
    private static final int BAD_VALUE = -2;
    private static final int FULL = -3;
    private static final int NONE = -5;
    private static final int MIXES = 6561;
    private static final int RUNS = 400;
    /** Nothing is promised behind so many calls of an object. */
    private static final int CALLS = 512;
    /** More calls than one step of a run makes, and more than the comparison at its end. */
    private static final int STEP = 70;
    private static final int END = 250;

    private static int wrong = 0;
    private static int asked = 0;
    private static long seed = 1;

    private static int below(int bound) {
        seed = seed * 6364136223846793005L + 1442695040888963407L;
        return (int) ((seed >>> 33) % bound);
    }

    private static void due(int run, String call, double got, double want) {
        asked++;
        if (got != want) {
            wrong++;
            if (wrong < 30) {
                System.out.println("run " + run + ": " + call + " answered " + got + ", due is " + want);
            }
        }
    }

    public static void main(String[] args) {
        for (int run = 0; run < RUNS; run++) {
            seed = 1000 + run;
            new Run(run).go();
        }
        faults();
        System.out.println(wrong == 0 ? "all answers are as due" : wrong + " answers are not as due");
        if (wrong != 0) {
            System.exit(1);
        }
    }

    private static void faults() {
        String letters = "jarulewntdopmbcdfghiabcdh=;>0123456789019x ";
        for (int i = 0; i < 20000; i++) {
            StringBuilder text = new StringBuilder(Words.orders(1 + below(6), 3));
            for (int change = below(3); change > 0 && text.length() > 0; change--) {
                int at = below(text.length());
                int kind = below(3);
                char sign = letters.charAt(below(letters.length()));
                if (kind == 0) {
                    text.setCharAt(at, sign);
                } else if (kind == 1) {
                    text.insert(at, sign);
                } else {
                    text.deleteCharAt(at);
                }
            }
            SpiceThrees x = new SpiceThrees();
            text.setLength(Math.min(60, text.length()));
            for (int at = 0; at < text.length(); at++) {
                x.type(text.charAt(at));
            }
            due(-1, "fault() of " + text, x.fault(), Words.faultOf(text.toString()));
        }
    }

    /** Texts by a pattern: a text may be gone on with if the pattern's match hits its end. */
    private static final class Words {
        private static final String MIX = "(?:[a-h][1-9]?)+";
        private static final String NUMBER = "(?:1[0-9]{1,2}|[0-9]|[1-9][0-9])";
        private static final String ORDER = "(?:(?:jar|rule|want)=" + MIX + "|drop=[0-9]|pour=" + NUMBER + ">" + NUMBER
            + "|more=" + NUMBER + ")";
        private static final Pattern TEXT = Pattern.compile(ORDER + "(?:;" + ORDER + ")*");

        static int faultOf(String text) {
            for (int length = 1; length <= text.length(); length++) {
                Matcher matcher = TEXT.matcher(text.substring(0, length));
                if (!matcher.matches() && !matcher.hitEnd()) {
                    return length - 1;
                }
            }
            return TEXT.matcher(text).matches() ? NONE : text.length();
        }

        static String orders(int count, int spices) {
            StringBuilder text = new StringBuilder();
            for (int i = 0; i < count; i++) {
                text.append(i == 0 ? "" : ";").append(order(spices));
            }
            text.setLength(Math.min(60, text.length()));
            return text.toString();
        }

        static String order(int spices) {
            switch (below(9)) {
                case 0:
                case 1:
                    return "jar=" + mix(spices);
                case 2:
                    return "rule=" + mix(spices);
                case 3:
                    return "want=" + mix(spices);
                case 4:
                    return "drop=" + below(3);
                case 5:
                    return "more=" + number();
                default:
                    return "pour=" + number() + ">" + number();
            }
        }

        static int number() {
            return below(8) == 0 ? below(260) : below(10);
        }

        static String mix(int spices) {
            StringBuilder mix = new StringBuilder();
            for (int i = 0; i <= below(5); i++) {
                mix.append((char) ('a' + below(spices)));
                if (below(2) == 0) {
                    mix.append(1 + below(9));
                }
            }
            return mix.toString();
        }
    }

    /** A state, never changed after it is recorded: acts work on a copy. */
    private static final class State {
        final TreeMap<Integer, Integer> jars = new TreeMap<>();
        final List<Integer> rules = new ArrayList<>();
        final List<Integer> wants = new ArrayList<>();
        final int[] prices = {1, 2, 3, 4, 5, 6, 7, 8};
        final int[] accounts = new int[18];
        int came = 0;

        State copy() {
            State copy = new State();
            copy.jars.putAll(jars);
            copy.rules.addAll(rules);
            copy.wants.addAll(wants);
            System.arraycopy(prices, 0, copy.prices, 0, 8);
            System.arraycopy(accounts, 0, copy.accounts, 0, 18);
            copy.came = came;
            return copy;
        }
    }

    private static int[] unitsIn(int mix) {
        int[] units = new int[8];
        for (int spice = 0; spice < 8; spice++) {
            units[spice] = mix % 3;
            mix /= 3;
        }
        return units;
    }

    private static int mixOfUnits(int[] units) {
        int mix = 0;
        for (int spice = 7; spice >= 0; spice--) {
            mix = mix * 3 + units[spice] % 3;
        }
        return mix;
    }

    private static int sum(int one, int other) {
        int[] units = unitsIn(one);
        int[] more = unitsIn(other);
        for (int spice = 0; spice < 8; spice++) {
            units[spice] += more[spice];
        }
        return mixOfUnits(units);
    }

    private static int size(int mix) {
        return Arrays.stream(unitsIn(mix)).sum();
    }

    /** All bland mixes: what is reached from the empty one by adding rules. */
    private static List<Integer> blandOf(List<Integer> rules) {
        boolean[] bland = new boolean[MIXES];
        List<Integer> found = new ArrayList<>();
        bland[0] = true;
        found.add(0);
        for (int i = 0; i < found.size(); i++) {
            for (int rule : rules) {
                int next = sum(found.get(i), rule);
                if (!bland[next]) {
                    bland[next] = true;
                    found.add(next);
                }
            }
        }
        return found;
    }

    private static int strengthOf(List<Integer> rules) {
        int strength = 0;
        for (int size = blandOf(rules).size(); size > 1; size /= 3) {
            strength++;
        }
        return strength;
    }

    private static final class Model {
        State now = new State();
        State kept = null;
        final Deque<State> history = new ArrayDeque<>();
        String text = "";
        List<Integer> blandFor = null;
        List<Integer> bland = null;
        int[] tastes = null;

        void record(State before) {
            history.addLast(before);
            if (history.size() > 4) {
                history.removeFirst();
            }
        }

        List<Integer> bland() {
            if (blandFor == null || !blandFor.equals(now.rules)) {
                blandFor = new ArrayList<>(now.rules);
                bland = blandOf(blandFor);
                tastes = new int[MIXES];
                Arrays.fill(tastes, -1);
                for (int mix = 0; mix < MIXES; mix++) {
                    if (tastes[mix] < 0) {
                        for (int add : bland) {
                            tastes[sum(mix, add)] = mix;
                        }
                    }
                }
            }
            return bland;
        }

        int taste(int mix) {
            bland();
            return tastes[mix];
        }

        int cost(int mix) {
            int cost = 0;
            int[] units = unitsIn(mix);
            for (int spice = 0; spice < 8; spice++) {
                cost += units[spice] * now.prices[spice];
            }
            return cost;
        }

        int cheapest(int mix) {
            int best = mix;
            for (int add : bland()) {
                int like = sum(mix, add);
                if (cost(like) < cost(best) || cost(like) == cost(best) && like < best) {
                    best = like;
                }
            }
            return best;
        }

        boolean bad(int mix) {
            return mix < 0 || mix >= MIXES;
        }

        int act(int kind, int a, int b) {
            State before = now.copy();
            int answer;
            switch (kind) {
                case 0:
                    answer = bad(a) ? BAD_VALUE : bring(unitsIn(a));
                    break;
                case 1:
                    answer = pour(a, b);
                    break;
                case 2:
                    answer = more(a);
                    break;
                case 3:
                    answer = throwAway(a);
                    break;
                case 4:
                    answer = rule(a);
                    break;
                case 5:
                    answer = drop(a);
                    break;
                case 6:
                    answer = price(a, b);
                    break;
                case 7:
                    answer = want(a);
                    break;
                case 8:
                    answer = serve();
                    break;
                case 9:
                    answer = doAll();
                    break;
                default:
                    answer = restore();
                    break;
            }
            if (answer >= 0) {
                record(before);
            } else {
                now = before;
            }
            return answer;
        }

        int bring(int[] units) {
            if (now.jars.size() == 12 || now.came == 200) {
                return FULL;
            }
            int mix = mixOfUnits(units);
            int bought = Arrays.stream(units).sum();
            now.accounts[7] += bought;
            now.accounts[8] += bought - size(mix);
            for (int spice = 0; spice < 8; spice++) {
                now.accounts[12] += units[spice] * now.prices[spice];
            }
            now.jars.put(now.came, mix);
            return now.came++;
        }

        int pour(int from, int to) {
            if (!now.jars.containsKey(from) || !now.jars.containsKey(to)) {
                return UNKNOWN;
            }
            if (from == to) {
                return BAD_VALUE;
            }
            int poured = now.jars.get(from);
            if (poured == 0) {
                return NONE;
            }
            int after = sum(poured, now.jars.get(to));
            int cancelled = size(poured) + size(now.jars.get(to)) - size(after);
            now.jars.put(from, 0);
            now.jars.put(to, after);
            now.accounts[8] += cancelled;
            return cancelled;
        }

        int more(int jar) {
            if (!now.jars.containsKey(jar)) {
                return UNKNOWN;
            }
            int mix = now.jars.get(jar);
            if (mix == 0) {
                return NONE;
            }
            int after = sum(mix, mix);
            now.accounts[7] += size(mix);
            now.accounts[12] += cost(mix);
            now.accounts[8] += 2 * size(mix) - size(after);
            now.jars.put(jar, after);
            return after;
        }

        int throwAway(int jar) {
            if (!now.jars.containsKey(jar)) {
                return UNKNOWN;
            }
            int units = size(now.jars.remove(jar));
            now.accounts[10] += units;
            return units;
        }

        int rule(int mix) {
            if (bad(mix)) {
                return BAD_VALUE;
            }
            if (now.rules.size() == 8) {
                return FULL;
            }
            now.rules.add(mix);
            return strengthOf(now.rules);
        }

        int drop(int rule) {
            if (rule < 0 || rule >= now.rules.size()) {
                return UNKNOWN;
            }
            now.rules.remove(rule);
            return strengthOf(now.rules);
        }

        int price(int spice, int price) {
            if (spice < 0 || spice > 7) {
                return UNKNOWN;
            }
            if (price < 0 || price > 99) {
                return BAD_VALUE;
            }
            int before = now.prices[spice];
            now.prices[spice] = price;
            return before == price ? NONE : before;
        }

        int want(int mix) {
            if (bad(mix)) {
                return BAD_VALUE;
            }
            if (now.wants.size() == 8) {
                return FULL;
            }
            now.wants.add(mix);
            return now.wants.size();
        }

        int serve() {
            if (now.wants.isEmpty()) {
                return NONE;
            }
            int taste = taste(now.wants.remove(0));
            for (int jar : now.jars.keySet()) {
                int mix = now.jars.get(jar);
                if (taste(mix) == taste) {
                    now.jars.remove(jar);
                    int coins = cost(mix) * 3 / 2;
                    now.accounts[9] += size(mix);
                    now.accounts[13] += coins;
                    now.accounts[14]++;
                    return coins;
                }
            }
            now.accounts[15]++;
            return 0;
        }

        int doAll() {
            int fault = Words.faultOf(text);
            if (fault != NONE) {
                return -100 - fault;
            }
            String[] orders = text.split(";");
            for (String order : orders) {
                int answer = perform(order.substring(0, order.indexOf('=')), order.substring(order.indexOf('=') + 1));
                if (answer < 0 && answer != NONE) {
                    return answer;
                }
            }
            return orders.length;
        }

        int perform(String word, String rest) {
            String[] numbers = rest.split(">");
            switch (word) {
                case "jar":
                    return bring(unitsRead(rest));
                case "rule":
                    return rule(mixOfUnits(unitsRead(rest)));
                case "want":
                    return want(mixOfUnits(unitsRead(rest)));
                case "drop":
                    return drop(Integer.parseInt(rest));
                case "more":
                    return more(Integer.parseInt(rest));
                default:
                    return pour(Integer.parseInt(numbers[0]), Integer.parseInt(numbers[1]));
            }
        }

        int[] unitsRead(String mix) {
            int[] units = new int[8];
            Matcher part = Pattern.compile("([a-h])([1-9]?)").matcher(mix);
            while (part.find()) {
                units[part.group(1).charAt(0) - 'a'] += part.group(2).isEmpty() ? 1 : Integer.parseInt(part.group(2));
            }
            return units;
        }

        int restore() {
            if (kept == null) {
                return NONE;
            }
            now = kept.copy();
            return now.jars.size();
        }

        int undo() {
            if (history.isEmpty()) {
                return NONE;
            }
            now = history.removeLast();
            return history.size();
        }

        int keep() {
            kept = now.copy();
            return now.jars.size();
        }

        List<Integer> numbers() {
            return new ArrayList<>(now.jars.keySet());
        }

        TreeSet<Integer> shelves() {
            TreeSet<Integer> shelves = new TreeSet<>();
            for (int mix : now.jars.values()) {
                shelves.add(taste(mix));
            }
            return shelves;
        }

        int tell(int mix, int what) {
            switch (what) {
                case 0:
                    return size(mix);
                case 1:
                    return cost(mix);
                case 2:
                    return taste(mix);
                case 3:
                    return bland().contains(mix) ? 1 : 0;
                default:
                    return cheapest(mix);
            }
        }

        int jarOf(int jar, int what) {
            if (!now.jars.containsKey(jar)) {
                return UNKNOWN;
            }
            if (what < 0 || what > 6) {
                return BAD_VALUE;
            }
            int mix = now.jars.get(jar);
            if (what == 0) {
                return mix;
            }
            return what == 6 ? cost(cheapest(mix)) : tell(mix, what - 1);
        }

        int mixOf(int mix, int what) {
            if (bad(mix) || what < 0 || what > 6) {
                return BAD_VALUE;
            }
            if (what == 5) {
                int other = 0;
                while (sum(mix, other) != 0) {
                    other++;
                }
                return other;
            }
            if (what == 6) {
                return (int) now.jars.values().stream().filter(m -> taste(m) == taste(mix)).count();
            }
            return tell(mix, what);
        }

        int shelf(int rank, int what) {
            if (rank < 0 || what < 0 || what > 3) {
                return BAD_VALUE;
            }
            List<Integer> shelves = new ArrayList<>(shelves());
            if (rank >= shelves.size()) {
                return NONE;
            }
            int taste = shelves.get(rank);
            List<Integer> there = new ArrayList<>();
            for (int jar : now.jars.keySet()) {
                if (taste(now.jars.get(jar)) == taste) {
                    there.add(jar);
                }
            }
            if (what == 3) {
                int best = there.get(0);
                for (int jar : there) {
                    best = cost(now.jars.get(jar)) < cost(now.jars.get(best)) ? jar : best;
                }
                return best;
            }
            return what == 0 ? taste : what == 1 ? there.size() : there.get(0);
        }

        int count(int what) {
            switch (what) {
                case 0:
                    return now.jars.size();
                case 1:
                    return now.rules.size();
                case 2:
                    return strengthOf(now.rules);
                case 3:
                    return bland().size();
                case 4:
                    return MIXES / bland().size();
                case 5:
                    return shelves().size();
                case 6:
                    return now.wants.size();
                case 11:
                    return now.accounts[7] - now.accounts[8] - now.accounts[9] - now.accounts[10];
                case 16:
                    return history.size();
                case 17:
                    return text.length();
                default:
                    return what < 0 || what > 17 ? BAD_VALUE : now.accounts[what];
            }
        }

        double lost() {
            return now.accounts[7] == 0 ? 0.0 : (double) now.accounts[8] / now.accounts[7];
        }

        /** By sets from jar to jar: the tastes that are made, each with its best set. */
        TreeMap<Integer, Integer> made() {
            TreeMap<Integer, Integer> made = new TreeMap<>();
            List<Integer> mixes = new ArrayList<>(now.jars.values());
            for (int set = 0; set < 1 << mixes.size(); set++) {
                int mix = 0;
                for (int rank = 0; rank < mixes.size(); rank++) {
                    mix = (set >> rank & 1) == 1 ? sum(mix, mixes.get(rank)) : mix;
                }
                int taste = taste(mix);
                Integer before = made.get(taste);
                if (before == null || Integer.bitCount(set) < Integer.bitCount(before)) {
                    made.put(taste, set);
                }
            }
            return made;
        }

        int fewest(int mix, int what) {
            if (bad(mix) || what < 0 || what > 1) {
                return BAD_VALUE;
            }
            Integer set = made().get(taste(mix));
            return set == null ? NONE : what == 0 ? Integer.bitCount(set) : set;
        }

        int needless() {
            for (int rule = 0; rule < now.rules.size(); rule++) {
                List<Integer> others = new ArrayList<>(now.rules);
                others.remove(rule);
                if (strengthOf(others) == strengthOf(now.rules)) {
                    return rule;
                }
            }
            return NONE;
        }

        int ifPoured(int jar, int other) {
            if (!now.jars.containsKey(jar) || !now.jars.containsKey(other)) {
                return UNKNOWN;
            }
            return jar == other ? BAD_VALUE : taste(sum(now.jars.get(jar), now.jars.get(other)));
        }
    }

    /** One run: acts that are likely to succeed, and some that aren't. */
    private static final class Run {
        final int run;
        final SpiceThrees x = new SpiceThrees();
        final Model model = new Model();
        final int spices;

        Run(int run) {
            this.run = run;
            spices = 1 + run % 8;
        }

        void go() {
            asked = 0;
            boolean compares = run / 8 % 2 == 0;
            while (asked < CALLS - STEP - (compares ? END : 0)) {
                int kind = below(10);
                if (kind < 5) {
                    act();
                } else if (kind < 6) {
                    words();
                } else if (kind < 7) {
                    past();
                } else {
                    ask();
                }
            }
            if (compares) {
                compareAll();
            }
            if (asked > CALLS) {
                throw new IllegalStateException("run " + run + " has " + asked + " calls");
            }
        }

        int mix() {
            if (below(40) == 0) {
                return below(2) == 0 ? -1 - below(5) : MIXES + below(5);
            }
            int mix = 0;
            int parts = below(4);
            for (int i = 0; i < parts; i++) {
                int unit = 1;
                for (int spice = below(spices); spice > 0; spice--) {
                    unit *= 3;
                }
                mix = sum(mix, unit * (1 + below(2)));
            }
            return mix;
        }

        int jar() {
            List<Integer> numbers = model.numbers();
            return numbers.isEmpty() || below(12) == 0 ? below(15) - 2 : numbers.get(below(numbers.size()));
        }

        void act() {
            int kind = below(20);
            if (kind < 6) {
                int mix = mix();
                due(run, "jar(" + mix + ")", x.jar(mix), model.act(0, mix, 0));
            } else if (kind < 9) {
                int from = jar();
                int to = jar();
                due(run, "pour(" + from + ", " + to + ")", x.pour(from, to), model.act(1, from, to));
            } else if (kind < 10) {
                int jar = jar();
                due(run, "more(" + jar + ")", x.more(jar), model.act(2, jar, 0));
            } else if (kind < 11) {
                int jar = jar();
                due(run, "throwAway(" + jar + ")", x.throwAway(jar), model.act(3, jar, 0));
            } else if (kind < 12) {
                int mix = mix();
                due(run, "rule(" + mix + ")", x.rule(mix), model.act(4, mix, 0));
            } else if (kind < 13) {
                int rule = below(run % 3 == 0 ? 20 : 8) - 1;
                due(run, "drop(" + rule + ")", x.drop(rule), model.act(5, rule, 0));
            } else if (kind < 15) {
                int spice = below(10) == 0 ? below(2) * 9 - 1 : below(8);
                int price = below(10) == 0 ? below(104) - 2 : below(7);
                due(run, "price(" + spice + ", " + price + ")", x.price(spice, price), model.act(6, spice, price));
            } else if (kind < 18) {
                int mix = mix();
                due(run, "want(" + mix + ")", x.want(mix), model.act(7, mix, 0));
            } else {
                due(run, "serve()", x.serve(), model.act(8, 0, 0));
            }
        }

        void words() {
            String text = Words.orders(1 + below(3), spices);
            due(run, "clearText()", x.clearText(), model.text.length());
            model.text = text;
            for (int i = 0; i < text.length(); i++) {
                due(run, "type()", x.type(text.charAt(i)), i + 1);
            }
            due(run, "fault() of " + text, x.fault(), Words.faultOf(text));
            due(run, "doAll() of " + text, x.doAll(), model.act(9, 0, 0));
        }

        void past() {
            int kind = below(6);
            if (kind < 3) {
                due(run, "undo()", x.undo(), model.undo());
            } else if (kind < 4) {
                due(run, "restore()", x.restore(), model.act(10, 0, 0));
            } else {
                due(run, "keep()", x.keep(), model.keep());
            }
        }

        void ask() {
            int a = mix();
            int b = mix();
            int what = below(9) - 1;
            int rank = below(14) - 1;
            int jar = jar();
            int other = jar();
            switch (below(14)) {
                case 0:
                    due(run, "jarOf(" + jar + ", " + what + ")", x.jarOf(jar, what), model.jarOf(jar, what));
                    break;
                case 1:
                    due(run, "mixOf(" + a + ", " + what + ")", x.mixOf(a, what), model.mixOf(a, what));
                    break;
                case 2:
                    due(run, "together(" + a + ", " + b + ")", x.together(a, b), model.bad(a) || model.bad(b) ? BAD_VALUE : sum(a, b));
                    break;
                case 3:
                    alike(a, b);
                    break;
                case 4:
                    due(run, "shelf(" + rank + ", " + what + ")", x.shelf(rank, what), model.shelf(rank, what));
                    break;
                case 5:
                    due(run, "count(" + (rank + 5) + ")", x.count(rank + 5), model.count(rank + 5));
                    break;
                case 6:
                    due(run, "lost()", x.lost(), model.lost());
                    break;
                case 7:
                    due(run, "fewest(" + a + ", 0)", x.fewest(a, 0), model.fewest(a, 0));
                    due(run, "fewest(" + a + ", 1)", x.fewest(a, 1), model.fewest(a, 1));
                    break;
                case 8:
                    due(run, "makes()", x.makes(), model.made().size());
                    break;
                case 9:
                    due(run, "needless()", x.needless(), model.needless());
                    break;
                case 10:
                    due(run, "ifPoured(" + jar + ", " + other + ")", x.ifPoured(jar, other), model.ifPoured(jar, other));
                    break;
                case 11:
                    for (int some = -1; some < 19; some++) {
                        due(run, "count(" + some + ")", x.count(some), model.count(some));
                    }
                    break;
                default:
                    compareRows();
                    break;
            }
        }

        void alike(int a, int b) {
            int want = model.bad(a) || model.bad(b) ? BAD_VALUE : model.taste(a) == model.taste(b) ? 1 : 0;
            due(run, "alike(" + a + ", " + b + ", true)", x.alike(a, b, true), want);
            due(run, "alike(" + a + ", " + b + ", false)", x.alike(a, b, false), want);
        }

        void compareRows() {
            List<Integer> numbers = model.numbers();
            for (int rank = -1; rank < 13; rank++) {
                int number = rank < 0 ? BAD_VALUE : rank < numbers.size() ? numbers.get(rank) : NONE;
                due(run, "ranked(" + rank + ")", x.ranked(rank), number);
                int rule = rank < 0 || rank >= model.now.rules.size() ? UNKNOWN : model.now.rules.get(rank);
                due(run, "ruleOf(" + rank + ")", x.ruleOf(rank), rule);
                int want = rank < 0 ? BAD_VALUE : rank < model.now.wants.size() ? model.now.wants.get(rank) : NONE;
                due(run, "waiting(" + rank + ")", x.waiting(rank), want);
            }
        }

        void compareAll() {
            compareRows();
            for (int what = -1; what < 19; what++) {
                due(run, "count(" + what + ")", x.count(what), model.count(what));
            }
            for (int what = -1; what < 8; what++) {
                due(run, "shelf(0, " + what + ")", x.shelf(0, what), model.shelf(0, what));
                int a = mix();
                due(run, "mixOf(" + a + ", " + what + ")", x.mixOf(a, what), model.mixOf(a, what));
                for (int jar : model.numbers()) {
                    due(run, "jarOf(" + jar + ", " + what + ")", x.jarOf(jar, what), model.jarOf(jar, what));
                }
            }
        }
    }
}

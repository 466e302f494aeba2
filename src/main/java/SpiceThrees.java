import java.util.Arrays;

/** A shop of spices that cancel in threes; ../shared/DOC.md tells what it promises. */
public final class SpiceThrees {
    public static final int UNKNOWN = -1;
    public static final int BAD_VALUE = -2;
    public static final int FULL = -3;
    public static final int NONE = -5;

    private static final int SPICES = 8;
    private static final int MIXES = 6561;
    private static final int HALF = 81;
    private static final int[] POWERS = {1, 3, 9, 27, 81, 243, 729, 2187, 6561};

    private static final int JARS = 12;
    private static final int JARS_EVER = 200;
    private static final int RULES = 8;
    private static final int CUSTOMERS = 8;
    private static final int STATES = 4;
    private static final int SIGNS = 60;
    private static final int TOP_PRICE = 99;
    private static final int FAULT_BASE = -100;

    private static final int BOUGHT = 0;
    private static final int CANCELLED = 1;
    private static final int SOLD = 2;
    private static final int THROWN = 3;
    private static final int PAID = 4;
    private static final int TAKEN = 5;
    private static final int SERVED = 6;
    private static final int LET_GO = 7;
    private static final int ACCOUNTS = 8;

    private static final int NO_WORD = -1;
    private static final int JAR = 0;
    private static final int RULE = 1;
    private static final int WANT = 2;
    private static final int DROP = 3;
    private static final int POUR = 4;
    private static final int MORE = 5;

    private final Mixes mixes;
    private final Tastes tastes;
    private final Shop shop;
    private final Shop kept;
    private boolean hasKept;
    private final History history;
    private final Acts acts;
    private final Text text;
    private final Choices choices;

    public SpiceThrees() {
        mixes = new Mixes();
        tastes = new Tastes(mixes);
        shop = new Shop();
        kept = new Shop();
        hasKept = false;
        history = new History();
        acts = new Acts(shop, mixes, tastes);
        text = new Text();
        choices = new Choices(mixes);
    }

    // ---- jars

    public int jar(int mix) {
        history.prepare(shop);
        return ended(acts.bring(mix));
    }

    public int pour(int from, int to) {
        history.prepare(shop);
        return ended(acts.pourInto(from, to));
    }

    public int more(int jar) {
        history.prepare(shop);
        return ended(acts.buyAgain(jar));
    }

    public int throwAway(int jar) {
        history.prepare(shop);
        return ended(acts.throwOut(jar));
    }

    // ---- rules, prices, customers

    public int rule(int mix) {
        history.prepare(shop);
        int answer = acts.makeBland(mix);
        return ended(answer < 0 ? answer : strength());
    }

    public int drop(int rule) {
        history.prepare(shop);
        int answer = acts.dropRule(rule);
        return ended(answer < 0 ? answer : strength());
    }

    public int price(int spice, int price) {
        history.prepare(shop);
        return ended(acts.setPrice(spice, price));
    }

    public int want(int mix) {
        history.prepare(shop);
        return ended(acts.welcome(mix));
    }

    public int serve() {
        history.prepare(shop);
        return ended(acts.serveFirst());
    }

    // ---- texts

    public int type(char character) {
        return text.append(character);
    }

    public int clearText() {
        return text.empty();
    }

    public int fault() {
        return text.findFault();
    }

    public int doAll() {
        int place = text.findFault();
        if (place >= 0) {
            return FAULT_BASE - place;
        }
        history.prepare(shop);
        int answer = acts.performAll(text);
        if (answer < 0) {
            history.takeBack(shop);
        }
        return ended(answer);
    }

    // ---- history

    public int undo() {
        return history.stepBack(shop);
    }

    public int keep() {
        kept.copyFrom(shop);
        hasKept = true;
        return shop.jars;
    }

    public int restore() {
        if (!hasKept) {
            return NONE;
        }
        history.prepare(shop);
        shop.copyFrom(kept);
        return ended(shop.jars);
    }

    /** Acts answer below 0 only with an error or NONE, and these record nothing. */
    private int ended(int answer) {
        if (answer >= 0) {
            history.record();
        }
        return answer;
    }

    // ---- what is told

    public int jarOf(int jar, int what) {
        int place = shop.placeOf(jar);
        if (place < 0) {
            return UNKNOWN;
        }
        int mix = shop.mixes[place];
        switch (what) {
            case 0:
                return mix;
            case 1:
                return unitsOf(mix);
            case 2:
                return costOf(mix, shop.prices);
            case 3:
                return tasteOf(mix);
            case 4:
                return tasteOf(mix) == 0 ? 1 : 0;
            case 5:
                return cheapestLike(mix);
            case 6:
                return costOf(cheapestLike(mix), shop.prices);
            default:
                return BAD_VALUE;
        }
    }

    public int ranked(int rank) {
        if (rank < 0) {
            return BAD_VALUE;
        }
        return rank < shop.jars ? shop.numbers[rank] : NONE;
    }

    public int ruleOf(int rule) {
        return rule >= 0 && rule < shop.ruled ? shop.rules[rule] : UNKNOWN;
    }

    public int mixOf(int mix, int what) {
        if (!isMix(mix)) {
            return BAD_VALUE;
        }
        switch (what) {
            case 0:
                return unitsOf(mix);
            case 1:
                return costOf(mix, shop.prices);
            case 2:
                return tasteOf(mix);
            case 3:
                return tasteOf(mix) == 0 ? 1 : 0;
            case 4:
                return cheapestLike(mix);
            case 5:
                return mixes.twice(mix);
            case 6:
                return jarsLike(tasteOf(mix));
            default:
                return BAD_VALUE;
        }
    }

    public int together(int one, int other) {
        return isMix(one) && isMix(other) ? mixes.join(one, other) : BAD_VALUE;
    }

    public int alike(int one, int other, boolean all) {
        if (!isMix(one) || !isMix(other)) {
            return BAD_VALUE;
        }
        if (!all) {
            return tasteOf(one) == tasteOf(other) ? 1 : 0;
        }
        tastes.learn(shop);
        return tastes.someBlandLeads(one, other) ? 1 : 0;
    }

    public int shelf(int rank, int what) {
        if (rank < 0 || what < 0 || what > 3) {
            return BAD_VALUE;
        }
        tastes.learn(shop);
        int taste = tasteOfShelf(rank);
        if (taste < 0) {
            return NONE;
        }
        switch (what) {
            case 0:
                return taste;
            case 1:
                return jarsLike(taste);
            case 2:
                return lowestJarLike(taste);
            default:
                return cheapestJarLike(taste);
        }
    }

    public int waiting(int rank) {
        if (rank < 0) {
            return BAD_VALUE;
        }
        return rank < shop.waits ? shop.wants[rank] : NONE;
    }

    public int count(int what) {
        switch (what) {
            case 0:
                return shop.jars;
            case 1:
                return shop.ruled;
            case 2:
                return strength();
            case 3:
                return POWERS[strength()];
            case 4:
                return POWERS[SPICES - strength()];
            case 5:
                return shelves();
            case 6:
                return shop.waits;
            case 11:
                return unitsInJars();
            case 16:
                return history.size;
            case 17:
                return text.length;
            default:
                return accountTold(what);
        }
    }

    public double lost() {
        int bought = shop.accounts[BOUGHT];
        if (bought == 0) {
            return 0.0;
        }
        return (double) shop.accounts[CANCELLED] / bought;
    }

    private int accountTold(int what) {
        switch (what) {
            case 7:
                return shop.accounts[BOUGHT];
            case 8:
                return shop.accounts[CANCELLED];
            case 9:
                return shop.accounts[SOLD];
            case 10:
                return shop.accounts[THROWN];
            case 12:
                return shop.accounts[PAID];
            case 13:
                return shop.accounts[TAKEN];
            case 14:
                return shop.accounts[SERVED];
            case 15:
                return shop.accounts[LET_GO];
            default:
                return BAD_VALUE;
        }
    }

    // ---- what would be

    public int fewest(int mix, int what) {
        if (!isMix(mix) || what < 0 || what > 1) {
            return BAD_VALUE;
        }
        tastes.learn(shop);
        choices.spread(tastes, shop);
        int set = choices.smallestLike(tastes.leastLike(mix));
        if (set < 0) {
            return NONE;
        }
        return what == 0 ? Integer.bitCount(set) : set;
    }

    public int makes() {
        tastes.learn(shop);
        choices.spread(tastes, shop);
        return choices.differentTastes();
    }

    public int needless() {
        tastes.learn(shop);
        return tastes.firstNeedless();
    }

    public int ifPoured(int jar, int other) {
        int one = shop.placeOf(jar);
        int two = shop.placeOf(other);
        if (one < 0 || two < 0) {
            return UNKNOWN;
        }
        if (one == two) {
            return BAD_VALUE;
        }
        return tasteOf(mixes.join(shop.mixes[one], shop.mixes[two]));
    }

    // ---- by the rules and prices as they are now

    private int strength() {
        tastes.learn(shop);
        return tastes.strength;
    }

    private int tasteOf(int mix) {
        tastes.learn(shop);
        return tastes.leastLike(mix);
    }

    private int cheapestLike(int mix) {
        tastes.learn(shop);
        return tastes.cheapestLike(mix, shop.prices);
    }

    private int shelves() {
        tastes.learn(shop);
        int found = 0;
        int taste = nextShelf(-1);
        for (int jar = 0; jar < shop.jars && taste >= 0; jar++) {
            found++;
            taste = nextShelf(taste);
        }
        return found;
    }

    // ---- jars and shelves, by the rules that are learned already

    private int jarsLike(int taste) {
        int found = 0;
        for (int place = 0; place < shop.jars; place++) {
            if (tastes.leastLike(shop.mixes[place]) == taste) {
                found++;
            }
        }
        return found;
    }

    private int lowestJarLike(int taste) {
        int place = tastes.firstJarLike(taste, shop);
        return place < 0 ? NONE : shop.numbers[place];
    }

    private int cheapestJarLike(int taste) {
        int best = NONE;
        int least = 0;
        for (int place = 0; place < shop.jars; place++) {
            int cost = costOf(shop.mixes[place], shop.prices);
            boolean cheaper = best == NONE || cost < least;
            if (cheaper && tastes.leastLike(shop.mixes[place]) == taste) {
                best = shop.numbers[place];
                least = cost;
            }
        }
        return best;
    }

    /** The taste of a shelf, or NONE. */
    private int tasteOfShelf(int rank) {
        if (rank >= shop.jars) {
            return NONE;
        }
        int taste = nextShelf(-1);
        for (int step = 0; step < rank && taste >= 0; step++) {
            taste = nextShelf(taste);
        }
        return taste;
    }

    /** The least taste of a jar above the given one, or NONE. */
    private int nextShelf(int above) {
        int next = NONE;
        for (int place = 0; place < shop.jars; place++) {
            int taste = tastes.leastLike(shop.mixes[place]);
            if (taste > above && (next == NONE || taste < next)) {
                next = taste;
            }
        }
        return next;
    }

    private int unitsInJars() {
        int units = 0;
        for (int place = 0; place < shop.jars; place++) {
            units += unitsOf(shop.mixes[place]);
        }
        return units;
    }

    // ---- single mixes

    private static boolean isMix(int mix) {
        return mix >= 0 && mix < MIXES;
    }

    private static int unitsOf(int mix) {
        int units = 0;
        for (int spice = 0; spice < SPICES; spice++) {
            units += mix / POWERS[spice] % 3;
        }
        return units;
    }

    private static int costOf(int mix, int[] prices) {
        int cost = 0;
        for (int spice = 0; spice < SPICES; spice++) {
            cost += mix / POWERS[spice] % 3 * prices[spice];
        }
        return cost;
    }

    /** Sums of mixes. Halves of four spices are looked up, as searches join thousands of mixes. */
    private static final class Mixes {
        private final byte[] sums = new byte[HALF * HALF];

        Mixes() {
            for (int one = 0; one < HALF; one++) {
                for (int other = 0; other < HALF; other++) {
                    // the sum without the lowest spice stands in the table already
                    int upper = sums[one / 3 * HALF + other / 3];
                    sums[one * HALF + other] = (byte) (upper * 3 + (one + other) % 3);
                }
            }
        }

        int join(int one, int other) {
            int high = sums[one / HALF * HALF + other / HALF];
            int low = sums[one % HALF * HALF + other % HALF];
            return high * HALF + low;
        }

        /** This is the mix that cancels it too: three times a mix is nothing. */
        int twice(int mix) {
            return join(mix, mix);
        }
    }

    /** What follows from rules: their strength, tastes, all bland mixes. */
    private static final class Tastes {
        private final Mixes mixes;
        private final int[] rules = new int[RULES];
        private int ruled = 0;
        private int strength = 0;
        /** By spice: a bland mix with one unit of it and no spice above it; 0 for none. */
        private final int[] leads = new int[SPICES];
        private final int[] trial = new int[SPICES];
        /** The leads without gaps, of which all bland mixes are made. */
        private final int[] parts = new int[SPICES];
        private final int[] lowCosts = new int[HALF];
        private final int[] highCosts = new int[HALF];

        Tastes(Mixes mixes) {
            this.mixes = mixes;
        }

        void learn(Shop shop) {
            if (isLearned(shop)) {
                return;
            }
            ruled = shop.ruled;
            System.arraycopy(shop.rules, 0, rules, 0, ruled);
            strength = findLeads(leads, -1);
            collectParts();
        }

        private boolean isLearned(Shop shop) {
            if (shop.ruled != ruled) {
                return false;
            }
            for (int rule = 0; rule < ruled; rule++) {
                if (shop.rules[rule] != rules[rule]) {
                    return false;
                }
            }
            return true;
        }

        /** Finds the leads of all rules but one, and answers how many they are. */
        private int findLeads(int[] found, int leftOut) {
            Arrays.fill(found, 0);
            int size = 0;
            for (int rule = 0; rule < ruled; rule++) {
                int rest = rule == leftOut ? 0 : reduced(found, rules[rule]);
                if (rest != 0) {
                    int spice = highestSpice(rest);
                    boolean once = rest / POWERS[spice] == 1;
                    found[spice] = once ? rest : mixes.twice(rest);
                    size++;
                }
            }
            return size;
        }

        private static int highestSpice(int mix) {
            int spice = SPICES - 1;
            while (spice > 0 && mix < POWERS[spice]) {
                spice--;
            }
            return spice;
        }

        private void collectParts() {
            int size = 0;
            for (int spice = 0; spice < SPICES; spice++) {
                if (leads[spice] != 0) {
                    parts[size] = leads[spice];
                    size++;
                }
            }
        }

        /**
         * Takes away every spice that leads, the highest first. What is left is the least number
         * of its taste: leads below a spice can't change the units of that spice any more.
         */
        private int reduced(int[] found, int mix) {
            int rest = mix;
            for (int spice = SPICES - 1; spice >= 0; spice--) {
                int units = found[spice] == 0 ? 0 : rest / POWERS[spice] % 3;
                if (units > 0) {
                    rest = mixes.join(rest, found[spice]);
                }
                if (units == 1) {
                    rest = mixes.join(rest, found[spice]);
                }
            }
            return rest;
        }

        int leastLike(int mix) {
            return reduced(leads, mix);
        }

        /** The place of the jar with the lowest number of a taste, or NONE. */
        int firstJarLike(int taste, Shop shop) {
            for (int place = 0; place < shop.jars; place++) {
                if (leastLike(shop.mixes[place]) == taste) {
                    return place;
                }
            }
            return NONE;
        }

        /** Whether one and some bland mix together are other, by going through all bland mixes. */
        boolean someBlandLeads(int one, int other) {
            int like = one;
            for (int step = 1; step < POWERS[strength] && like != other; step++) {
                like = nextLike(like, step);
            }
            return like == other;
        }

        /**
         * Steps from mix to mix of a taste, so that each of them comes once. A part is taken once
         * more only as those before it have gone round, so all sums with them come up in between.
         */
        private int nextLike(int mix, int step) {
            int part = 0;
            int rest = step;
            while (part < SPICES - 1 && rest % 3 == 0) {
                rest = rest / 3;
                part++;
            }
            return mixes.join(mix, parts[part]);
        }

        int cheapestLike(int mix, int[] prices) {
            fillCosts(prices);
            int best = mix;
            int least = costOf(mix, prices);
            int like = mix;
            for (int step = 1; step < POWERS[strength]; step++) {
                like = nextLike(like, step);
                int cost = lowCosts[like % HALF] + highCosts[like / HALF];
                if (cost < least || cost == least && like < best) {
                    best = like;
                    least = cost;
                }
            }
            return best;
        }

        private void fillCosts(int[] prices) {
            for (int half = 0; half < HALF; half++) {
                lowCosts[half] = costOf(half, prices);
                highCosts[half] = costOf(half * HALF, prices);
            }
        }

        /** The lowest rule without which the rules are as strong, or NONE. */
        int firstNeedless() {
            for (int rule = 0; rule < ruled; rule++) {
                if (findLeads(trial, rule) == strength) {
                    return rule;
                }
            }
            return NONE;
        }
    }

    /** One state: all that undo and the snapshot bring back. */
    private static final class Shop {
        private final int[] numbers = new int[JARS];
        private final int[] mixes = new int[JARS];
        private int jars = 0;
        private int came = 0;
        private final int[] rules = new int[RULES];
        private int ruled = 0;
        private final int[] prices = new int[SPICES];
        private final int[] wants = new int[CUSTOMERS];
        private int waits = 0;
        private final int[] accounts = new int[ACCOUNTS];

        Shop() {
            for (int spice = 0; spice < SPICES; spice++) {
                prices[spice] = spice + 1;
            }
        }

        void copyFrom(Shop other) {
            System.arraycopy(other.numbers, 0, numbers, 0, JARS);
            System.arraycopy(other.mixes, 0, mixes, 0, JARS);
            jars = other.jars;
            came = other.came;
            System.arraycopy(other.rules, 0, rules, 0, RULES);
            ruled = other.ruled;
            System.arraycopy(other.prices, 0, prices, 0, SPICES);
            System.arraycopy(other.wants, 0, wants, 0, CUSTOMERS);
            waits = other.waits;
            System.arraycopy(other.accounts, 0, accounts, 0, ACCOUNTS);
        }

        /** The place of a jar among those that are there, or UNKNOWN. */
        int placeOf(int number) {
            for (int place = 0; place < jars; place++) {
                if (numbers[place] == number) {
                    return place;
                }
            }
            return UNKNOWN;
        }

        boolean hasRoomForJar() {
            return jars < JARS && came < JARS_EVER;
        }

        int addJar(int mix) {
            int number = came;
            numbers[jars] = number;
            mixes[jars] = mix;
            jars++;
            came++;
            return number;
        }

        void removeJar(int place) {
            jars--;
            for (int next = place; next < jars; next++) {
                numbers[next] = numbers[next + 1];
                mixes[next] = mixes[next + 1];
            }
        }

        void removeRule(int rule) {
            ruled--;
            for (int next = rule; next < ruled; next++) {
                rules[next] = rules[next + 1];
            }
        }

        int removeFirstWant() {
            int first = wants[0];
            waits--;
            for (int next = 0; next < waits; next++) {
                wants[next] = wants[next + 1];
            }
            return first;
        }
    }

    /** The latest states, in a ring with one row more, where the state before an act waits. */
    private static final class History {
        private static final int ROWS = STATES + 1;
        private final Shop[] rows = new Shop[ROWS];
        private int next = 0;
        private int size = 0;

        History() {
            for (int row = 0; row < ROWS; row++) {
                rows[row] = new Shop();
            }
        }

        void prepare(Shop shop) {
            rows[next].copyFrom(shop);
        }

        void takeBack(Shop shop) {
            shop.copyFrom(rows[next]);
        }

        void record() {
            next = (next + 1) % ROWS;
            size = Math.min(size + 1, STATES);
        }

        int stepBack(Shop shop) {
            if (size == 0) {
                return NONE;
            }
            next = (next + STATES) % ROWS;
            size--;
            takeBack(shop);
            return size;
        }
    }

    /** The acts on a shop, with their errors, but without the history. */
    private static final class Acts {
        private final Shop shop;
        private final Mixes mixes;
        private final Tastes tastes;
        private final int[] amounts = new int[SPICES];

        Acts(Shop shop, Mixes mixes, Tastes tastes) {
            this.shop = shop;
            this.mixes = mixes;
            this.tastes = tastes;
        }

        int bring(int mix) {
            if (!isMix(mix)) {
                return BAD_VALUE;
            }
            for (int spice = 0; spice < SPICES; spice++) {
                amounts[spice] = mix / POWERS[spice] % 3;
            }
            return bringUnits(amounts);
        }

        /** Brings a jar with units of each spice, of which threes are bought and cancel at once. */
        int bringUnits(int[] units) {
            if (!shop.hasRoomForJar()) {
                return FULL;
            }
            int mix = 0;
            int bought = 0;
            int paid = 0;
            for (int spice = 0; spice < SPICES; spice++) {
                mix += units[spice] % 3 * POWERS[spice];
                bought += units[spice];
                paid += units[spice] * shop.prices[spice];
            }
            shop.accounts[BOUGHT] += bought;
            shop.accounts[PAID] += paid;
            shop.accounts[CANCELLED] += bought - unitsOf(mix);
            return shop.addJar(mix);
        }

        int pourInto(int from, int to) {
            int source = shop.placeOf(from);
            int target = shop.placeOf(to);
            if (source < 0 || target < 0) {
                return UNKNOWN;
            }
            if (source == target) {
                return BAD_VALUE;
            }
            int poured = shop.mixes[source];
            if (poured == 0) {
                return NONE;
            }
            shop.mixes[source] = 0;
            return mixInto(target, poured);
        }

        int buyAgain(int jar) {
            int place = shop.placeOf(jar);
            if (place < 0) {
                return UNKNOWN;
            }
            int mix = shop.mixes[place];
            if (mix == 0) {
                return NONE;
            }
            shop.accounts[BOUGHT] += unitsOf(mix);
            shop.accounts[PAID] += costOf(mix, shop.prices);
            mixInto(place, mix);
            return shop.mixes[place];
        }

        /** Answers how many units cancel. */
        private int mixInto(int place, int mix) {
            int before = shop.mixes[place];
            int after = mixes.join(before, mix);
            int cancelled = unitsOf(before) + unitsOf(mix) - unitsOf(after);
            shop.mixes[place] = after;
            shop.accounts[CANCELLED] += cancelled;
            return cancelled;
        }

        int throwOut(int jar) {
            int place = shop.placeOf(jar);
            if (place < 0) {
                return UNKNOWN;
            }
            int units = unitsOf(shop.mixes[place]);
            shop.accounts[THROWN] += units;
            shop.removeJar(place);
            return units;
        }

        /** Answers how many rules there are then. */
        int makeBland(int mix) {
            if (!isMix(mix)) {
                return BAD_VALUE;
            }
            if (shop.ruled >= RULES) {
                return FULL;
            }
            shop.rules[shop.ruled] = mix;
            shop.ruled++;
            return shop.ruled;
        }

        /** Answers how many rules there are then. */
        int dropRule(int rule) {
            if (rule < 0 || rule >= shop.ruled) {
                return UNKNOWN;
            }
            shop.removeRule(rule);
            return shop.ruled;
        }

        int setPrice(int spice, int price) {
            if (spice < 0 || spice >= SPICES) {
                return UNKNOWN;
            }
            if (price < 0 || price > TOP_PRICE) {
                return BAD_VALUE;
            }
            int before = shop.prices[spice];
            if (before == price) {
                return NONE;
            }
            shop.prices[spice] = price;
            return before;
        }

        int welcome(int mix) {
            if (!isMix(mix)) {
                return BAD_VALUE;
            }
            if (shop.waits >= CUSTOMERS) {
                return FULL;
            }
            shop.wants[shop.waits] = mix;
            shop.waits++;
            return shop.waits;
        }

        int serveFirst() {
            if (shop.waits == 0) {
                return NONE;
            }
            int wanted = shop.removeFirstWant();
            tastes.learn(shop);
            int place = tastes.firstJarLike(tastes.leastLike(wanted), shop);
            if (place < 0) {
                shop.accounts[LET_GO]++;
                return 0;
            }
            return sell(place);
        }

        private int sell(int place) {
            int mix = shop.mixes[place];
            int cost = costOf(mix, shop.prices);
            int coins = cost + cost / 2;
            shop.accounts[SOLD] += unitsOf(mix);
            shop.accounts[TAKEN] += coins;
            shop.accounts[SERVED]++;
            shop.removeJar(place);
            return coins;
        }

        /** Performs a text without a fault; answers how many orders it has, or the first error. */
        int performAll(Text text) {
            text.start();
            int orders = 0;
            boolean goesOn = true;
            while (goesOn && orders < SIGNS) {
                text.readOrder();
                int answer = perform(text);
                if (answer < 0 && answer != NONE) {
                    return answer;
                }
                orders++;
                goesOn = text.skip(';');
            }
            return orders;
        }

        private int perform(Text order) {
            switch (order.word) {
                case JAR:
                    return bringUnits(order.amounts);
                case RULE:
                    return makeBland(order.mixRead());
                case WANT:
                    return welcome(order.mixRead());
                case DROP:
                    return dropRule(order.first);
                case POUR:
                    return pourInto(order.first, order.second);
                case MORE:
                    return buyAgain(order.first);
                default:
                    return NONE;
            }
        }
    }

    /** The text, and a reader that stops at the first character that is not allowed. */
    private static final class Text {
        private final char[] signs = new char[SIGNS];
        private int length = 0;
        private int at = 0;
        private int word = NO_WORD;
        private final int[] amounts = new int[SPICES];
        private int first = 0;
        private int second = 0;

        int append(char sign) {
            if (length >= SIGNS) {
                return FULL;
            }
            signs[length] = sign;
            length++;
            return length;
        }

        int empty() {
            int before = length;
            length = 0;
            return before;
        }

        void start() {
            at = 0;
        }

        int findFault() {
            start();
            // an order takes a sign at least, so there are fewer orders than rounds
            for (int round = 0; round <= SIGNS; round++) {
                if (!readOrder()) {
                    return at;
                }
                if (at >= length) {
                    return NONE;
                }
                if (!skip(';')) {
                    return at;
                }
            }
            return at;
        }

        /** Reads an order from where the reader is; where it fails, the reader is at the fault. */
        boolean readOrder() {
            if (!readWord() || !skip('=')) {
                return false;
            }
            switch (word) {
                case DROP:
                    return readRuleNumber();
                case MORE:
                    return readFirst();
                case POUR:
                    return readFirst() && skip('>') && readSecond();
                default:
                    return readMix();
            }
        }

        boolean skip(char sign) {
            if (at >= length || signs[at] != sign) {
                return false;
            }
            at++;
            return true;
        }

        /** The words begin with different letters, so the first letter tells the word. */
        private boolean readWord() {
            word = at < length ? wordWith(signs[at]) : NO_WORD;
            String letters = lettersOf(word);
            for (int place = 0; place < letters.length(); place++) {
                if (!skip(letters.charAt(place))) {
                    return false;
                }
            }
            return word != NO_WORD;
        }

        private static int wordWith(char letter) {
            switch (letter) {
                case 'j':
                    return JAR;
                case 'r':
                    return RULE;
                case 'w':
                    return WANT;
                case 'd':
                    return DROP;
                case 'p':
                    return POUR;
                case 'm':
                    return MORE;
                default:
                    return NO_WORD;
            }
        }

        private static String lettersOf(int word) {
            switch (word) {
                case JAR:
                    return "jar";
                case RULE:
                    return "rule";
                case WANT:
                    return "want";
                case DROP:
                    return "drop";
                case POUR:
                    return "pour";
                case MORE:
                    return "more";
                default:
                    return "";
            }
        }

        private boolean readMix() {
            Arrays.fill(amounts, 0);
            int start = at;
            for (int round = 0; round < SIGNS && spiceHere() >= 0; round++) {
                int spice = spiceHere();
                at++;
                int units = digitHere();
                if (units > 0) {
                    at++;
                }
                amounts[spice] += units > 0 ? units : 1;
            }
            return at > start;
        }

        int mixRead() {
            int mix = 0;
            for (int spice = 0; spice < SPICES; spice++) {
                mix += amounts[spice] % 3 * POWERS[spice];
            }
            return mix;
        }

        private boolean readRuleNumber() {
            first = digitHere();
            if (first < 0) {
                return false;
            }
            at++;
            return true;
        }

        private boolean readFirst() {
            first = readJarNumber();
            return first >= 0;
        }

        private boolean readSecond() {
            second = readJarNumber();
            return second >= 0;
        }

        /** Takes as many digits as a jar's number may have here; NONE if there is no digit. */
        private int readJarNumber() {
            int number = digitHere();
            if (number < 0) {
                return NONE;
            }
            at++;
            for (int round = 0; round < SIGNS && number > 0; round++) {
                int digit = digitHere();
                if (digit < 0 || number * 10 + digit >= JARS_EVER) {
                    return number;
                }
                number = number * 10 + digit;
                at++;
            }
            return number;
        }

        /** The spice whose letter is here, or NONE. */
        private int spiceHere() {
            if (at >= length || signs[at] < 'a' || signs[at] > 'h') {
                return NONE;
            }
            return signs[at] - 'a';
        }

        /** The digit that is here, or NONE. */
        private int digitHere() {
            if (at >= length || signs[at] < '0' || signs[at] > '9') {
                return NONE;
            }
            return signs[at] - '0';
        }
    }

    /** All sets of jars, as bits by rank, with the tastes of their jars together. */
    private static final class Choices {
        private static final int BITS = 32;
        private final Mixes mixes;
        private final short[] sums = new short[1 << JARS];
        private int sets = 1;
        private final int[] seen = new int[MIXES / BITS + 1];

        Choices(Mixes mixes) {
            this.mixes = mixes;
        }

        /** Tastes that are least numbers join to least numbers: no spice that leads comes in. */
        void spread(Tastes learned, Shop shop) {
            sums[0] = 0;
            sets = 1;
            for (int place = 0; place < shop.jars; place++) {
                int taste = learned.leastLike(shop.mixes[place]);
                for (int set = 0; set < sets; set++) {
                    sums[sets + set] = (short) mixes.join(sums[set], taste);
                }
                sets = 2 * sets;
            }
        }

        /** Of the sets with the fewest jars the least number, or NONE. */
        int smallestLike(int taste) {
            int best = NONE;
            int least = JARS + 1;
            for (int set = 0; set < sets; set++) {
                if (sums[set] == taste && Integer.bitCount(set) < least) {
                    best = set;
                    least = Integer.bitCount(set);
                }
            }
            return best;
        }

        int differentTastes() {
            Arrays.fill(seen, 0);
            int different = 0;
            for (int set = 0; set < sets; set++) {
                int row = sums[set] / BITS;
                int bit = 1 << sums[set] % BITS;
                if ((seen[row] & bit) == 0) {
                    seen[row] |= bit;
                    different++;
                }
            }
            return different;
        }
    }
}

/**
 * A land in which letters have worths, and whoever's name comes to the same sum is the same person.
 *
 * <p>The rows that a call works with are made once, with the object: a call makes nothing new.
 */
public final class SameMan {
    public static final int BAD = -1, STATE = -2, FULL = -3, NONE = -4;

    private static final int LETTERS = 26, MOST_WORTH = 40, MOST_FEE = 9, MOST_MONEY = 99;
    private static final int MOST_PEOPLE = 8, MOST_LISTED = 6, MOST_KNOWN = 6, MOST_KNOWN_SUM = 999;
    private static final int LONGEST_NAME = 20, LONGEST_TOLD_NAME = 10;
    private static final int MOST_ASKED_SUM = 9999, MOST_CROWD = 3, MOST_YEAR = 20;
    private static final int TAPE_BYTES = 320, IMAGES = 2, SHEETS = 4, CELLS = 40, MOST_READ = 20;
    private static final int PLAIN = 0, DEAD = 1, FOREIGN = 2, MUTE = 3, TWIN = 4;
    private static final int FIRST_LETTER_NOT_FOREIGN = 13, MOST_RAISE = 3;
    private static final int BYTES = 0, SHORTS = 1, INTS = 2;
    private static final int NULL = 1, INDEX = 2, CAST = 3, SIZE = 4;

    /** A question about the letter at place i is asked by this and i. */
    private static final int PLACES = 10;

    /** An answer that tells a FAULT is this, less the FAULT or its place. */
    private static final int REFUSED = -10;

    /** An answer that tells a pair of cells which is no letter and worth is this, less its number. */
    private static final int REFUSED_PAIR = -20;

    private static final int EVEN_WORTH_HAVING = 10000;

    private final Tape tape = new Tape();
    private final Reader reader = new Reader(tape);
    private final Census census = new Census();
    private final Raises raises = new Raises();
    private final Pairs pairs = new Pairs();
    private final Name joined = new Name();
    private final Land[] images = new Land[IMAGES];
    private final boolean[] kept = new boolean[IMAGES];
    private final Sheet[] sheets = new Sheet[SHEETS];
    private Told told = new Told();
    private int latestFault;
    private int latestTorn;

    public SameMan() {
        for (int k = 0; k < IMAGES; k++) {
            images[k] = new Land();
        }
        for (int k = 0; k < SHEETS; k++) {
            sheets[k] = new Sheet();
        }
    }

    // ---- the text, what there is

    public int feed(long v) {
        return tape.append(v) ? tape.length : FULL;
    }

    public int end(int n) {
        if (!within(n, 0, tape.length)) {
            return BAD;
        }
        int before = tape.length;
        tape.length = n;
        return before;
    }

    public int text() {
        int answer = reader.tell();
        latestFault = reader.fault;
        tape.length = 0;
        if (latestFault == 0) {
            told = reader.exchange(told);
            forgetImages();
        }
        return answer;
    }

    public int fault() {
        return latestFault;
    }

    public int rule(int what) {
        switch (what) {
            case 0:
                return told.land.size;
            case 1:
                return told.land.law;
            case 2:
                return told.land.fee;
            case 3:
                return told.listed;
            default:
                return BAD;
        }
    }

    public int worth(int l) {
        return isLetter(l) ? told.land.worths[l] : BAD;
    }

    public int one(int p, int what) {
        if (!isOne(p)) {
            return BAD;
        }
        One one = told.land.people[p];
        switch (what) {
            case 0:
                return one.kind;
            case 1:
                return one.debt;
            case 2:
                return one.wealth;
            case 3:
                return one.name.length;
            default:
                return one.name.letterAt(what - PLACES);
        }
    }

    public int listed(int n, int what) {
        if (!told.lists(n)) {
            return BAD;
        }
        switch (what) {
            case 0:
                return told.list[n].length;
            case 1:
                return told.listedSum(n);
            default:
                return told.list[n].letterAt(what - PLACES);
        }
    }

    // ---- what is changed

    public int letter(int l, int v) {
        if (!isLetterAndWorth(l, v)) {
            return BAD;
        }
        int before = told.land.worths[l];
        told.land.worths[l] = v;
        return before;
    }

    public int law(int v) {
        if (!within(v, 0, 1)) {
            return BAD;
        }
        int before = told.land.law;
        told.land.law = v;
        return before;
    }

    public int fee(int v) {
        if (!within(v, 1, MOST_FEE)) {
            return BAD;
        }
        int before = told.land.fee;
        told.land.fee = v;
        return before;
    }

    public int debt(int p, int v) {
        if (!isOne(p) || !within(v, 0, MOST_MONEY)) {
            return BAD;
        }
        One one = told.land.people[p];
        int before = one.debt;
        one.debt = v;
        return before;
    }

    public int wealth(int p, int v) {
        if (!isOne(p) || !within(v, 0, MOST_MONEY)) {
            return BAD;
        }
        One one = told.land.people[p];
        int before = one.wealth;
        one.wealth = v;
        return before;
    }

    public int become(int p, int kind) {
        if (!isOne(p) || !within(kind, PLAIN, TWIN)) {
            return BAD;
        }
        One one = told.land.people[p];
        int before = one.kind;
        one.kind = kind;
        return before;
    }

    public int bear(int n) {
        if (!told.lists(n)) {
            return BAD;
        }
        Land land = told.land;
        if (land.size >= MOST_PEOPLE) {
            return FULL;
        }
        One child = land.people[land.size];
        child.kind = PLAIN;
        child.debt = 0;
        child.wealth = 0;
        child.name.copy(told.list[n]);
        land.size++;
        return land.size - 1;
    }

    public int wed(int p, int q) {
        if (!isOne(p) || !isOne(q) || p == q) {
            return BAD;
        }
        One first = told.land.people[p];
        One second = told.land.people[q];
        if (first.kind == DEAD || second.kind == DEAD) {
            return STATE;
        }
        if (!joined.join(first.name, second.name)) {
            return FULL;
        }
        first.name.copy(joined);
        second.name.copy(joined);
        return told.land.sumOf(first.name, first.kind);
    }

    // ---- persons

    public int sum(int p) {
        return isOne(p) ? told.land.sumOfOne(p) : BAD;
    }

    public int person(int p) {
        if (!isOne(p)) {
            return BAD;
        }
        census.take(told.land);
        return census.onesOf(p);
    }

    public int persons() {
        census.take(told.land);
        return census.howMany();
    }

    public int lone() {
        census.take(told.land);
        return census.loneOnes();
    }

    public int owes(int p) {
        if (!isOne(p)) {
            return BAD;
        }
        census.take(told.land);
        return census.debtOf(p);
    }

    public int has(int p) {
        if (!isOne(p)) {
            return BAD;
        }
        census.take(told.land);
        return census.wealthOf(p);
    }

    public int votes() {
        census.take(told.land);
        return census.voters();
    }

    public int heirs(int s) {
        if (s < 0) {
            return BAD;
        }
        census.take(told.land);
        return census.livingOnesOf(s);
    }

    // ---- names changed, children, weddings

    public int change(int p, int s, int what) {
        if (!isOne(p) || !within(s, 0, MOST_ASKED_SUM)) {
            return BAD;
        }
        One one = told.land.people[p];
        int place = what - PLACES;
        if (what != 0 && !one.name.hasPlace(place)) {
            return BAD;
        }
        raises.find(told.land, one);
        if (!raises.reach(s)) {
            return NONE;
        }
        if (what == 0) {
            return told.land.fee * raises.leastFor(s);
        }
        return one.name.letterAt(place) + raises.atPlace(s, place);
    }

    public int rid(int p, int what) {
        if (!isOne(p) || !within(what, 0, 2)) {
            return BAD;
        }
        raises.find(told.land, told.land.people[p]);
        census.take(told.land);
        int best = 0;
        int bestSum = NONE;
        int bestFee = 0;
        for (int s = raises.low; s <= raises.high; s++) {
            if (raises.reach(s)) {
                int cost = told.land.fee * raises.leastFor(s);
                census.sums[p] = s;
                int value = census.worthHaving(p) - cost;
                if (bestSum == NONE || value > best) {
                    best = value;
                    bestSum = s;
                    bestFee = cost;
                }
            }
        }
        return what == 0 ? best : what == 1 ? bestSum : bestFee;
    }

    public int call(int what) {
        if (!within(what, 0, 1)) {
            return BAD;
        }
        if (told.listed == 0) {
            return STATE;
        }
        census.take(told.land);
        int best = 0;
        int bestName = NONE;
        for (int n = 0; n < told.listed; n++) {
            int value = census.worthHavingOfChild(told.listedSum(n));
            if (bestName == NONE || value > best) {
                best = value;
                bestName = n;
            }
        }
        return what == 0 ? best : bestName;
    }

    public int match(int what) {
        if (!within(what, 0, 1)) {
            return BAD;
        }
        census.take(told.land);
        int best = NONE;
        int bestPair = NONE;
        for (int p = 0; p < told.land.size; p++) {
            for (int q = 0; q < told.land.size; q++) {
                int value = worthOfWedding(p, q);
                if (value > best) {
                    best = value;
                    bestPair = 10 * p + q;
                }
            }
        }
        return what == 0 ? best : bestPair;
    }

    public int crowd(int n, int what) {
        if (!within(n, 0, MOST_CROWD) || !within(what, 0, 1)) {
            return BAD;
        }
        if (n > 0 && told.listed == 0) {
            return STATE;
        }
        census.take(told.land);
        int now = census.howMany();
        if (n == 0) {
            return now;
        }
        boolean joinable = false;
        for (int i = 0; i < told.listed; i++) {
            joinable = joinable || census.holds(told.listedSum(i));
        }
        if (what == 0) {
            // children who all get one name are one person at the most
            return joinable ? now : now + 1;
        }
        for (int i = 0; i < told.listed; i++) {
            census.addChild(told.listedSum(i));
        }
        return Math.min(now + n, census.howMany());
    }

    public int part(int what) {
        if (!within(what, 0, 1)) {
            return BAD;
        }
        Land land = told.land;
        census.take(land);
        int most = census.howMany();
        int best = NONE;
        for (int l = 0; l < LETTERS; l++) {
            if (census.weigh(land, l)) {
                census.shift(-land.worths[l]);
                for (int v = 0; v <= MOST_WORTH; v++) {
                    int parted = census.howMany();
                    if (parted > most) {
                        most = parted;
                        best = 100 * l + v;
                    }
                    census.shift(1);
                }
                census.shift(land.worths[l] - MOST_WORTH - 1);
            }
        }
        return best == NONE || what == 0 ? best : most;
    }

    // ---- worths that are unknown

    public int know(int n, int s) {
        if (!told.lists(n) || !within(s, 0, MOST_KNOWN_SUM)) {
            return BAD;
        }
        return told.addKnown(n, s) ? told.known : FULL;
    }

    public int forget(int n) {
        if (!within(n, 0, told.known)) {
            return BAD;
        }
        int before = told.known;
        told.known = n;
        return before;
    }

    public int solve(int a, int b, int what) {
        if (!isLetter(a) || !isLetter(b) || a == b || !within(what, 0, 3)) {
            return BAD;
        }
        pairs.find(told, a, b);
        if (what == 0) {
            return pairs.number;
        }
        if (pairs.number == 0) {
            return NONE;
        }
        if (what == 1) {
            return 100 * pairs.firstOfA + pairs.firstOfB;
        }
        if (what == 2) {
            return pairs.oneOfA ? pairs.firstOfA : NONE;
        }
        return pairs.oneOfB ? pairs.firstOfB : NONE;
    }

    // ---- births by a seed

    public int year(int seed, int n, int what) {
        if (!within(n, 1, MOST_YEAR) || !within(what, 0, 1)) {
            return BAD;
        }
        if (told.listed == 0) {
            return STATE;
        }
        census.take(told.land);
        int next = seed;
        for (int i = 0; i < n; i++) {
            next = next * 1103515245 + 12345;
            census.addChild(told.listedSum((next >>> 16 & 0x7fff) % told.listed));
        }
        return what == 0 ? census.howMany() : Integer.bitCount(census.loneOnes());
    }

    // ---- images, sheets

    public int keep(int k) {
        if (!within(k, 0, IMAGES - 1)) {
            return BAD;
        }
        int before = kept[k] ? 1 : 0;
        images[k].copy(told.land);
        kept[k] = true;
        return before;
    }

    public int back(int k) {
        if (!within(k, 0, IMAGES - 1)) {
            return BAD;
        }
        if (!kept[k]) {
            return STATE;
        }
        told.land.copy(images[k]);
        return told.land.size;
    }

    public int sheet(int k, int lane, int n) {
        if (!within(k, 0, SHEETS - 1) || !within(lane, BYTES, INTS) || n > CELLS) {
            return BAD;
        }
        if (n < 0) {
            return REFUSED - SIZE;
        }
        sheets[k].begin(lane, n);
        return 1;
    }

    public int lay(int k, int i, int v) {
        if (!within(k, 0, SHEETS - 1)) {
            return BAD;
        }
        int met = sheets[k].faultAt(i);
        if (met != 0) {
            return REFUSED - met;
        }
        sheets[k].put(i, v);
        return 1;
    }

    public int read(int k, int lane, int f, int n) {
        if (!within(k, 0, SHEETS - 1) || !within(lane, BYTES, INTS) || !within(n, 0, MOST_READ)) {
            return BAD;
        }
        Sheet sheet = sheets[k];
        int met = 0;
        int came = 0;
        for (int i = 0; i < n && met == 0; i++) {
            met = sheet.faultOfPair(lane, f, i);
            if (met == 0) {
                if (!isLetterAndWorth(sheet.firstOfPair(f, i), sheet.secondOfPair(f, i))) {
                    return REFUSED_PAIR - i;
                }
                came++;
            }
        }
        for (int i = 0; i < came; i++) {
            letter(sheet.firstOfPair(f, i), sheet.secondOfPair(f, i));
        }
        latestTorn = met;
        return came;
    }

    public int torn() {
        return latestTorn;
    }

    public int count(int what) {
        switch (what) {
            case 0:
                return told.known;
            case 1:
                return imagesKept();
            case 2:
                return tape.length;
            case 3:
                return sheets[0].there ? sheets[0].size : NONE;
            case 4:
                return told.land.lettersOfAll();
            case 5:
                return told.land.worthsOfAll();
            default:
                return BAD;
        }
    }

    // ---- what the calls share

    private static boolean within(int v, int low, int high) {
        return v >= low && v <= high;
    }

    private static boolean isLetter(int l) {
        return within(l, 0, LETTERS - 1);
    }

    private static boolean isLetterAndWorth(int l, int v) {
        return isLetter(l) && within(v, 0, MOST_WORTH);
    }

    private boolean isOne(int p) {
        return p >= 0 && p < told.land.size;
    }

    private int imagesKept() {
        int all = 0;
        for (int k = 0; k < IMAGES; k++) {
            all += kept[k] ? 1 : 0;
        }
        return all;
    }

    private void forgetImages() {
        for (int k = 0; k < IMAGES; k++) {
            kept[k] = false;
        }
    }

    /** WORTH HAVING of p's PERSON if p and q wed, or NONE if they can not; the census stays as it is. */
    private int worthOfWedding(int p, int q) {
        One first = told.land.people[p];
        One second = told.land.people[q];
        if (p == q || first.kind == DEAD || second.kind == DEAD || !joined.join(first.name, second.name)) {
            return NONE;
        }
        int sumOfFirst = census.sums[p];
        int sumOfSecond = census.sums[q];
        census.sums[p] = told.land.sumOf(joined, first.kind);
        census.sums[q] = told.land.sumOf(joined, second.kind);
        int value = census.worthHaving(p);
        census.sums[p] = sumOfFirst;
        census.sums[q] = sumOfSecond;
        return value;
    }

    /** LETTERS at places from 0. */
    private static final class Name {
        private final int[] letters = new int[LONGEST_NAME];
        private int length;

        boolean hasPlace(int i) {
            return i >= 0 && i < length;
        }

        int letterAt(int i) {
            return hasPlace(i) ? letters[i] : BAD;
        }

        void clear() {
            length = 0;
        }

        void add(int l) {
            if (length < LONGEST_NAME) {
                letters[length] = l;
                length++;
            }
        }

        void addAll(Name other) {
            for (int i = 0; i < other.length; i++) {
                add(other.letters[i]);
            }
        }

        void copy(Name other) {
            clear();
            addAll(other);
        }

        /** Becomes first and second behind it, or says that this is too long. */
        boolean join(Name first, Name second) {
            if (first.length + second.length > LONGEST_NAME) {
                return false;
            }
            copy(first);
            addAll(second);
            return true;
        }
    }

    /** One of the PEOPLE. */
    private static final class One {
        private final Name name = new Name();
        private int kind;
        private int debt;
        private int wealth;

        void copy(One other) {
            name.copy(other.name);
            kind = other.kind;
            debt = other.debt;
            wealth = other.wealth;
        }
    }

    /** PEOPLE, and the rules that their sums and fees go by: all that an IMAGE keeps. */
    private static final class Land {
        private final int[] worths = new int[LETTERS];
        private final One[] people = new One[MOST_PEOPLE];
        private int size;
        private int law;
        private int fee;

        Land() {
            for (int p = 0; p < MOST_PEOPLE; p++) {
                people[p] = new One();
            }
            clear();
        }

        private void clear() {
            for (int l = 0; l < LETTERS; l++) {
                worths[l] = l + 1;
            }
            size = 0;
            law = 0;
            fee = 1;
        }

        void copy(Land other) {
            for (int l = 0; l < LETTERS; l++) {
                worths[l] = other.worths[l];
            }
            size = other.size;
            for (int p = 0; p < size; p++) {
                people[p].copy(other.people[p]);
            }
            law = other.law;
            fee = other.fee;
        }

        /** How many times the WORTH of a letter at a place counts for a ONE of a kind. */
        int weight(int l, int place, int kind) {
            if (kind == MUTE || kind == FOREIGN && l >= FIRST_LETTER_NOT_FOREIGN) {
                return 0;
            }
            return law == 0 ? 1 : place + 1;
        }

        int shareOf(int l, int place, int kind) {
            return l >= 0 && l < LETTERS ? weight(l, place, kind) * worths[l] : 0;
        }

        int sumOf(Name name, int kind) {
            int all = 0;
            for (int i = 0; i < name.length; i++) {
                all += shareOf(name.letterAt(i), i, kind);
            }
            return all;
        }

        int sumOfOne(int p) {
            return sumOf(people[p].name, people[p].kind);
        }

        /** How many times the WORTH of a letter counts in the whole name. */
        int weightIn(Name name, int kind, int l) {
            int all = 0;
            for (int i = 0; i < name.length; i++) {
                if (name.letterAt(i) == l) {
                    all += weight(l, i, kind);
                }
            }
            return all;
        }

        int lettersOfAll() {
            int all = 0;
            for (int p = 0; p < size; p++) {
                all += people[p].name.length;
            }
            return all;
        }

        int worthsOfAll() {
            int all = 0;
            for (int l = 0; l < LETTERS; l++) {
                all += worths[l];
            }
            return all;
        }
    }

    /** All that a text tells: the land, THE LIST, what is KNOWN. */
    private static final class Told {
        private final Land land = new Land();
        private final Name[] list = new Name[MOST_LISTED];
        private final int[] knownNames = new int[MOST_KNOWN];
        private final int[] knownSums = new int[MOST_KNOWN];
        private int listed;
        private int known;

        Told() {
            for (int n = 0; n < MOST_LISTED; n++) {
                list[n] = new Name();
            }
        }

        void clear() {
            land.clear();
            listed = 0;
            known = 0;
        }

        boolean lists(int n) {
            return n >= 0 && n < listed;
        }

        int listedSum(int n) {
            return lists(n) ? land.sumOf(list[n], PLAIN) : BAD;
        }

        boolean addKnown(int n, int s) {
            if (known >= MOST_KNOWN) {
                return false;
            }
            knownNames[known] = n;
            knownSums[known] = s;
            known++;
            return true;
        }
    }

    /** ONES by their sums, those there are and children who might be: all about PERSONS is asked here. */
    private static final class Census {
        private static final int MOST = MOST_PEOPLE + MOST_YEAR;

        private final int[] sums = new int[MOST];
        private final int[] kinds = new int[MOST];
        private final int[] debts = new int[MOST];
        private final int[] wealths = new int[MOST];
        private final int[] weights = new int[MOST_PEOPLE];
        private int size;

        void take(Land land) {
            size = 0;
            for (int p = 0; p < land.size; p++) {
                One one = land.people[p];
                append(land.sumOfOne(p), one.kind, one.debt, one.wealth);
            }
        }

        void addChild(int sum) {
            append(sum, PLAIN, 0, 0);
        }

        private void append(int sum, int kind, int debt, int wealth) {
            if (size < MOST) {
                sums[size] = sum;
                kinds[size] = kind;
                debts[size] = debt;
                wealths[size] = wealth;
                size++;
            }
        }

        private boolean alike(int p, int q) {
            return p == q || kinds[p] != TWIN && kinds[q] != TWIN && sums[p] == sums[q];
        }

        int onesOf(int p) {
            int ones = 0;
            for (int q = 0; q < size; q++) {
                if (alike(p, q)) {
                    ones |= 1 << q;
                }
            }
            return ones;
        }

        /** Whether p is the first ONE of his PERSON, so that the PERSON is counted by him. */
        private boolean leads(int p) {
            for (int q = 0; q < p; q++) {
                if (alike(p, q)) {
                    return false;
                }
            }
            return true;
        }

        int howMany() {
            int number = 0;
            for (int p = 0; p < size; p++) {
                if (leads(p)) {
                    number++;
                }
            }
            return number;
        }

        int loneOnes() {
            int ones = 0;
            for (int p = 0; p < size; p++) {
                if (onesOf(p) == 1 << p) {
                    ones |= 1 << p;
                }
            }
            return ones;
        }

        int debtOf(int p) {
            return totalOf(debts, p);
        }

        int wealthOf(int p) {
            return totalOf(wealths, p);
        }

        private int totalOf(int[] money, int p) {
            int all = 0;
            for (int q = 0; q < size; q++) {
                if (alike(p, q)) {
                    all += money[q];
                }
            }
            return all;
        }

        int worthHaving(int p) {
            int all = EVEN_WORTH_HAVING;
            for (int q = 0; q < size; q++) {
                if (alike(p, q)) {
                    all += wealths[q] - debts[q];
                }
            }
            return all;
        }

        /** WORTH HAVING of the PERSON that a child of this sum would be; the census stays as it is. */
        int worthHavingOfChild(int sum) {
            int before = size;
            addChild(sum);
            int value = worthHaving(size - 1);
            size = before;
            return value;
        }

        private int livingOnes() {
            int ones = 0;
            for (int p = 0; p < size; p++) {
                if (kinds[p] != DEAD) {
                    ones |= 1 << p;
                }
            }
            return ones;
        }

        int voters() {
            int living = livingOnes();
            int number = 0;
            for (int p = 0; p < size; p++) {
                if (leads(p) && (onesOf(p) & living) != 0) {
                    number++;
                }
            }
            return number;
        }

        int livingOnesOf(int sum) {
            int ones = 0;
            for (int p = 0; p < size; p++) {
                if (sums[p] == sum) {
                    ones |= 1 << p;
                }
            }
            return ones & livingOnes();
        }

        /** Whether a child of this sum would be somebody there is. */
        boolean holds(int sum) {
            for (int p = 0; p < size; p++) {
                if (kinds[p] != TWIN && sums[p] == sum) {
                    return true;
                }
            }
            return false;
        }

        /** Takes how a letter's WORTH counts in each sum, and tells whether it does at all. */
        boolean weigh(Land land, int l) {
            boolean counts = false;
            for (int p = 0; p < land.size; p++) {
                One one = land.people[p];
                weights[p] = land.weightIn(one.name, one.kind, l);
                counts = counts || weights[p] != 0;
            }
            return counts;
        }

        /** The sums as they are when the letter that was weighed is worth more by this. */
        void shift(int more) {
            for (int p = 0; p < size && p < MOST_PEOPLE; p++) {
                sums[p] += weights[p] * more;
            }
        }
    }

    /**
     * The least raises by which a name comes to each sum.
     *
     * <p>An entry is one number, the raises of all letters above those of each letter (two bits each,
     * the first place highest), so that the least entry is also the first name by its letters.
     */
    private static final class Raises {
        private static final int MOST_SUM = MOST_WORTH * LONGEST_NAME * (LONGEST_NAME + 1) / 2;
        private static final int ALL_SHIFT = 2 * LONGEST_NAME;
        private static final long NO_WAY = -1;

        private final long[] row = new long[MOST_SUM + 1];
        private final int[] shares = new int[MOST_RAISE + 1];
        private int choices;
        private int low;
        private int high;

        void find(Land land, One one) {
            low = 0;
            high = 0;
            row[0] = 0;
            for (int i = 0; i < one.name.length; i++) {
                takeShares(land, one, i);
                addPlace(i);
            }
        }

        /** What the letter at a place adds to the sum, as it is and by each raise. */
        private void takeShares(Land land, One one, int place) {
            int l = one.name.letterAt(place);
            choices = Math.min(MOST_RAISE, LETTERS - 1 - l) + 1;
            for (int r = 0; r < choices; r++) {
                shares[r] = land.shareOf(l + r, place, one.kind);
            }
        }

        /** Goes from the highest sum down, for an entry is made of those at lower sums as they were. */
        private void addPlace(int place) {
            int least = shares[0];
            int greatest = shares[0];
            for (int r = 1; r < choices; r++) {
                least = Math.min(least, shares[r]);
                greatest = Math.max(greatest, shares[r]);
            }
            int top = Math.min(high + greatest, MOST_SUM);
            for (int s = top; s >= low + least && s >= 0; s--) {
                row[s] = leastEntry(s, unit(place));
            }
            low += least;
            high = top;
        }

        private long leastEntry(int s, long unit) {
            long least = NO_WAY;
            for (int r = 0; r < choices; r++) {
                int rest = s - shares[r];
                if (reach(rest)) {
                    long entry = row[rest] + r * unit;
                    least = least == NO_WAY ? entry : Math.min(least, entry);
                }
            }
            return least;
        }

        /** One raise of the letter at a place, as an entry tells it. */
        private static long unit(int place) {
            return (1L << ALL_SHIFT) + (1L << shiftOf(place));
        }

        private static int shiftOf(int place) {
            return 2 * (LONGEST_NAME - 1 - place);
        }

        boolean reach(int s) {
            return s >= low && s <= high && s >= 0 && s <= MOST_SUM && row[s] != NO_WAY;
        }

        int leastFor(int s) {
            return reach(s) ? (int) (row[s] >> ALL_SHIFT) : 0;
        }

        int atPlace(int s, int place) {
            return reach(s) ? (int) (row[s] >> shiftOf(place)) & 3 : 0;
        }
    }

    /** The pairs of WORTHS of two letters by which all that is KNOWN is so. */
    private static final class Pairs {
        private final int[] weightsOfA = new int[MOST_KNOWN];
        private final int[] weightsOfB = new int[MOST_KNOWN];
        private final int[] rests = new int[MOST_KNOWN];
        private int size;
        private int number;
        private int firstOfA;
        private int firstOfB;
        private boolean oneOfA;
        private boolean oneOfB;

        void find(Told told, int a, int b) {
            weigh(told, a, b);
            number = 0;
            oneOfA = true;
            oneOfB = true;
            for (int x = 0; x <= MOST_WORTH; x++) {
                for (int y = 0; y <= MOST_WORTH; y++) {
                    if (fits(x, y)) {
                        take(x, y);
                    }
                }
            }
        }

        /** Each KNOWN sum as so many times the one worth, so many times the other, and a rest. */
        private void weigh(Told told, int a, int b) {
            Land land = told.land;
            size = told.known;
            for (int i = 0; i < size; i++) {
                int n = told.knownNames[i];
                if (told.lists(n)) {
                    Name name = told.list[n];
                    weightsOfA[i] = land.weightIn(name, PLAIN, a);
                    weightsOfB[i] = land.weightIn(name, PLAIN, b);
                    int others = land.sumOf(name, PLAIN)
                            - weightsOfA[i] * land.worths[a] - weightsOfB[i] * land.worths[b];
                    rests[i] = told.knownSums[i] - others;
                }
            }
        }

        private boolean fits(int x, int y) {
            for (int i = 0; i < size; i++) {
                if (weightsOfA[i] * x + weightsOfB[i] * y != rests[i]) {
                    return false;
                }
            }
            return true;
        }

        private void take(int x, int y) {
            if (number == 0) {
                firstOfA = x;
                firstOfB = y;
            }
            oneOfA = oneOfA && x == firstOfA;
            oneOfB = oneOfB && y == firstOfB;
            number++;
        }
    }

    /** THE TAPE. */
    private static final class Tape {
        private final byte[] bytes = new byte[TAPE_BYTES];
        private int length;

        boolean append(long v) {
            if (length + 8 > TAPE_BYTES) {
                return false;
            }
            for (int shift = 56; shift >= 0; shift -= 8) {
                bytes[length] = (byte) (v >>> shift);
                length++;
            }
            return true;
        }
    }

    /** Reads THE TAPE into a draft, token by token, up to the first FAULT. */
    private static final class Reader {
        private static final int END = 0, WORD = 1, NUMBER = 2, SEMICOLON = 3;
        private static final int NO_TOKEN = 1, OUT_OF_PLACE = 2, OUT_OF_BOUNDS = 3;
        private static final int TOLD_ALREADY = 4, TOO_MANY = 5, NOT_LISTED = 6;
        private static final int MOST_FIGURES = 3;

        private final Tape tape;
        private final boolean[] lettersTold = new boolean[LETTERS];
        private Told draft = new Told();
        private boolean lawTold;
        private boolean feeTold;
        private int next;
        private int token;
        private int start;
        private int number;
        private int fault;
        private int place;

        Reader(Tape tape) {
            this.tape = tape;
        }

        /** Hands out what was told and takes what it stands in place of, to write over it. */
        Told exchange(Told old) {
            Told taken = draft;
            draft = old;
            return taken;
        }

        /** How many lines the draft has been told, or -10 less the place of the FAULT. */
        int tell() {
            begin();
            int lines = 0;
            while (lines < TAPE_BYTES && advance() && token != END && tellLine()) {
                lines++;
            }
            if (fault == 0 && !allKnownAreListed()) {
                refuse(NOT_LISTED, tape.length);
            }
            return fault == 0 ? lines : REFUSED - place;
        }

        private void begin() {
            draft.clear();
            for (int l = 0; l < LETTERS; l++) {
                lettersTold[l] = false;
            }
            lawTold = false;
            feeTold = false;
            next = 0;
            fault = 0;
            place = 0;
        }

        private boolean refuse(int why, int where) {
            fault = why;
            place = where;
            return false;
        }

        private boolean tellLine() {
            if (says("law")) {
                return tellLaw();
            }
            if (says("fee")) {
                return tellFee();
            }
            if (says("letter")) {
                return tellLetter();
            }
            if (says("one")) {
                return tellOne();
            }
            if (says("list")) {
                return tellList();
            }
            if (says("known")) {
                return tellKnown();
            }
            return refuse(OUT_OF_PLACE, start);
        }

        private boolean tellLaw() {
            if (lawTold) {
                return refuse(TOLD_ALREADY, start);
            }
            lawTold = true;
            if (!takeNumber(0, 1)) {
                return false;
            }
            draft.land.law = number;
            return takeSemicolon();
        }

        private boolean tellFee() {
            if (feeTold) {
                return refuse(TOLD_ALREADY, start);
            }
            feeTold = true;
            if (!takeNumber(1, MOST_FEE)) {
                return false;
            }
            draft.land.fee = number;
            return takeSemicolon();
        }

        private boolean tellLetter() {
            if (!takeWord(1)) {
                return false;
            }
            int l = byteAt(start) - 'a';
            if (!isLetter(l)) {
                return refuse(OUT_OF_PLACE, start);
            }
            if (lettersTold[l]) {
                return refuse(TOLD_ALREADY, start);
            }
            lettersTold[l] = true;
            if (!takeNumber(0, MOST_WORTH)) {
                return false;
            }
            draft.land.worths[l] = number;
            return takeSemicolon();
        }

        private boolean tellOne() {
            Land land = draft.land;
            if (land.size >= MOST_PEOPLE) {
                return refuse(TOO_MANY, start);
            }
            One one = land.people[land.size];
            if (!takeKind(one) || !takeWord(LONGEST_TOLD_NAME)) {
                return false;
            }
            copyWord(one.name);
            if (!takeNumber(0, MOST_MONEY)) {
                return false;
            }
            one.debt = number;
            if (!takeNumber(0, MOST_MONEY)) {
                return false;
            }
            one.wealth = number;
            land.size++;
            return takeSemicolon();
        }

        private boolean takeKind(One one) {
            if (!advance()) {
                return false;
            }
            one.kind = says("plain") ? PLAIN
                    : says("dead") ? DEAD
                    : says("foreign") ? FOREIGN
                    : says("mute") ? MUTE
                    : says("twin") ? TWIN
                    : BAD;
            return one.kind != BAD || refuse(OUT_OF_PLACE, start);
        }

        private boolean tellList() {
            if (!advance() || !addListed()) {
                return false;
            }
            for (int n = 0; n < TAPE_BYTES; n++) {
                if (!advance()) {
                    return false;
                }
                if (token == SEMICOLON) {
                    return true;
                }
                if (!addListed()) {
                    return false;
                }
            }
            return false;
        }

        /** The token becomes a NAME of THE LIST. */
        private boolean addListed() {
            if (token != WORD) {
                return refuse(OUT_OF_PLACE, start);
            }
            if (draft.listed >= MOST_LISTED) {
                return refuse(TOO_MANY, start);
            }
            if (next - start > LONGEST_TOLD_NAME) {
                return refuse(OUT_OF_BOUNDS, start);
            }
            copyWord(draft.list[draft.listed]);
            draft.listed++;
            return true;
        }

        private boolean tellKnown() {
            if (draft.known >= MOST_KNOWN) {
                return refuse(TOO_MANY, start);
            }
            if (!takeNumber(0, MOST_LISTED - 1)) {
                return false;
            }
            int n = number;
            if (!takeNumber(0, MOST_KNOWN_SUM)) {
                return false;
            }
            draft.addKnown(n, number);
            return takeSemicolon();
        }

        private boolean allKnownAreListed() {
            for (int i = 0; i < draft.known; i++) {
                if (!draft.lists(draft.knownNames[i])) {
                    return false;
                }
            }
            return true;
        }

        private boolean takeNumber(int least, int most) {
            if (!advance()) {
                return false;
            }
            if (token != NUMBER) {
                return refuse(OUT_OF_PLACE, start);
            }
            return within(number, least, most) || refuse(OUT_OF_BOUNDS, start);
        }

        private boolean takeWord(int longest) {
            if (!advance()) {
                return false;
            }
            if (token != WORD) {
                return refuse(OUT_OF_PLACE, start);
            }
            return next - start <= longest || refuse(OUT_OF_BOUNDS, start);
        }

        private boolean takeSemicolon() {
            if (!advance()) {
                return false;
            }
            return token == SEMICOLON || refuse(OUT_OF_PLACE, start);
        }

        /** Reads the next token: it lies from start to next. */
        private boolean advance() {
            next = endOfRun(next, ' ', ' ');
            start = next;
            int first = byteAt(start);
            if (start >= tape.length) {
                token = END;
            } else if (first == ';') {
                token = SEMICOLON;
                next = start + 1;
            } else if (within(first, 'a', 'z')) {
                token = WORD;
                next = endOfRun(start, 'a', 'z');
            } else if (within(first, '0', '9')) {
                token = NUMBER;
                next = endOfRun(start, '0', '9');
                if (next - start > MOST_FIGURES) {
                    return refuse(NO_TOKEN, start);
                }
                takeFigures();
            } else {
                return refuse(NO_TOKEN, start);
            }
            return true;
        }

        private void takeFigures() {
            number = 0;
            for (int i = start; i < next && i < tape.length; i++) {
                number = 10 * number + tape.bytes[i] - '0';
            }
        }

        private int endOfRun(int from, int least, int most) {
            int at = from;
            while (at >= 0 && at < tape.length && tape.bytes[at] >= least && tape.bytes[at] <= most) {
                at++;
            }
            return at;
        }

        private int byteAt(int i) {
            return i >= 0 && i < tape.length ? tape.bytes[i] : 0;
        }

        private boolean says(String word) {
            if (token != WORD || next - start != word.length()) {
                return false;
            }
            for (int i = 0; i < word.length(); i++) {
                if (byteAt(start + i) != word.charAt(i)) {
                    return false;
                }
            }
            return true;
        }

        private void copyWord(Name name) {
            name.clear();
            for (int i = start; i < next; i++) {
                name.add(byteAt(i) - 'a');
            }
        }
    }

    /** A row of CELLS of a lane, or nothing. */
    private static final class Sheet {
        private final int[] cells = new int[CELLS];
        private boolean there;
        private int lane;
        private int size;

        void begin(int newLane, int newSize) {
            there = true;
            lane = newLane;
            size = newSize;
            for (int i = 0; i < CELLS; i++) {
                cells[i] = 0;
            }
        }

        int faultAt(int i) {
            if (!there) {
                return NULL;
            }
            return i >= 0 && i < size ? 0 : INDEX;
        }

        /** What the machine refuses is a pair that is asked for: where none is, no lane is a FAULT. */
        int faultOfPair(int asLane, int from, int pair) {
            if (there && lane != asLane) {
                return CAST;
            }
            int met = faultAt(from + 2 * pair);
            return met != 0 ? met : faultAt(from + 2 * pair + 1);
        }

        int firstOfPair(int from, int pair) {
            return cellAt(from + 2 * pair);
        }

        int secondOfPair(int from, int pair) {
            return cellAt(from + 2 * pair + 1);
        }

        private int cellAt(int i) {
            return faultAt(i) == 0 ? cells[i] : 0;
        }

        void put(int i, int v) {
            if (faultAt(i) == 0) {
                cells[i] = lane == BYTES ? (byte) v : lane == SHORTS ? (short) v : v;
            }
        }
    }
}

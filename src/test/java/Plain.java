import java.util.ArrayList;
import java.util.HashMap;
import java.util.HashSet;
import java.util.List;
import java.util.Map;
import java.util.Set;
import java.util.TreeMap;

/**
 * The document said over again as plainly as can be, with the library and without a thought of speed:
 * RandomTest asks it and the class the same questions.
 */
final class Plain {
    static final int BAD = -1, STATE = -2, FULL = -3, NONE = -4;

    static final class One {
        int kind;
        String name;
        int debt;
        int wealth;

        One(int kind, String name, int debt, int wealth) {
            this.kind = kind;
            this.name = name;
            this.debt = debt;
            this.wealth = wealth;
        }

        One copy() {
            return new One(kind, name, debt, wealth);
        }
    }

    static final class Refusal extends RuntimeException {
        private static final long serialVersionUID = 1;
        final int why;
        final int where;

        Refusal(int why, int where) {
            this.why = why;
            this.where = where;
        }
    }

    static final class Image {
        final List<One> people;
        final int[] worths;
        final int law;
        final int fee;

        Image(List<One> people, int[] worths, int law, int fee) {
            this.people = copyOf(people);
            this.worths = worths.clone();
            this.law = law;
            this.fee = fee;
        }
    }

    private List<One> people = new ArrayList<>();
    private int[] worths = newWorths();
    private int law = 0;
    private int fee = 1;
    private List<String> list = new ArrayList<>();
    private List<int[]> known = new ArrayList<>();
    private String tape = "";
    private int fault = 0;
    private int torn = 0;
    private final Image[] images = new Image[2];
    private final Object[] sheets = new Object[4];

    private static int[] newWorths() {
        int[] w = new int[26];
        for (int l = 0; l < 26; l++) {
            w[l] = l + 1;
        }
        return w;
    }

    private static List<One> copyOf(List<One> some) {
        List<One> copies = new ArrayList<>();
        some.forEach(one -> copies.add(one.copy()));
        return copies;
    }

    int feed(long v) {
        if (tape.length() + 8 > 320) {
            return FULL;
        }
        for (int i = 7; i >= 0; i--) {
            tape += (char) (v >> 8 * i & 255);
        }
        return tape.length();
    }

    int end(int n) {
        if (n < 0 || n > tape.length()) {
            return BAD;
        }
        int was = tape.length();
        tape = tape.substring(0, n);
        return was;
    }

    int text() {
        Telling telling = new Telling(tape);
        tape = "";
        try {
            int lines = telling.tell();
            people = telling.people;
            worths = telling.worths;
            law = telling.law < 0 ? 0 : telling.law;
            fee = telling.fee < 0 ? 1 : telling.fee;
            list = telling.list;
            known = telling.known;
            images[0] = null;
            images[1] = null;
            fault = 0;
            return lines;
        } catch (Refusal refusal) {
            fault = refusal.why;
            return -10 - refusal.where;
        }
    }

    /** The text by a pattern that each line's tokens have: N a number, w a word, K a kind. */
    static final class Telling {
        final String tape;
        int at = 0;
        int start = 0;
        final List<One> people = new ArrayList<>();
        final int[] worths = newWorths();
        int law = -1;
        int fee = -1;
        final List<String> list = new ArrayList<>();
        final List<int[]> known = new ArrayList<>();
        final Set<String> letters = new HashSet<>();

        Telling(String tape) {
            this.tape = tape;
        }

        String token() {
            while (at < tape.length() && tape.charAt(at) == ' ') {
                at++;
            }
            start = at;
            if (at == tape.length()) {
                return "";
            }
            String rest = tape.substring(at);
            String token = rest.startsWith(";") ? ";" : longest(rest, "abcdefghijklmnopqrstuvwxyz");
            if (token.isEmpty()) {
                token = longest(rest, "0123456789");
                if (token.isEmpty() || token.length() > 3) {
                    throw new Refusal(1, start);
                }
            }
            at += token.length();
            return token;
        }

        static String longest(String rest, String of) {
            int n = 0;
            while (n < rest.length() && of.indexOf(rest.charAt(n)) >= 0) {
                n++;
            }
            return rest.substring(0, n);
        }

        void need(boolean so, int why) {
            if (!so) {
                throw new Refusal(why, start);
            }
        }

        int number(int from, int to) {
            String token = token();
            need(token.matches("[0-9]+"), 2);
            int v = Integer.parseInt(token);
            need(v >= from && v <= to, 3);
            return v;
        }

        String word(int longest) {
            String token = token();
            need(token.matches("[a-z]+"), 2);
            need(token.length() <= longest, 3);
            return token;
        }

        int tell() {
            int lines = 0;
            for (String first = token(); !first.isEmpty(); first = token()) {
                line(first);
                lines++;
            }
            for (int[] k : known) {
                need(k[0] < list.size(), 6);
            }
            return lines;
        }

        void line(String first) {
            switch (first) {
                case "law" -> {
                    need(law < 0, 4);
                    law = number(0, 1);
                }
                case "fee" -> {
                    need(fee < 0, 4);
                    fee = number(1, 9);
                }
                case "letter" -> {
                    String l = word(1);
                    need(letters.add(l), 4);
                    worths[l.charAt(0) - 'a'] = number(0, 40);
                }
                case "one" -> {
                    need(people.size() < 8, 5);
                    int kind = List.of("plain", "dead", "foreign", "mute", "twin").indexOf(token());
                    need(kind >= 0, 2);
                    String name = word(10);
                    int debt = number(0, 99);
                    people.add(new One(kind, name, debt, number(0, 99)));
                }
                case "list" -> {
                    names();
                    return;
                }
                case "known" -> {
                    need(known.size() < 6, 5);
                    int n = number(0, 5);
                    known.add(new int[] {n, number(0, 999)});
                }
                default -> need(false, 2);
            }
            need(token().equals(";"), 2);
        }

        void names() {
            for (int n = 0;; n++) {
                String token = token();
                if (n > 0 && token.equals(";")) {
                    return;
                }
                need(token.matches("[a-z]+"), 2);
                need(list.size() < 6, 5);
                need(token.length() <= 10, 3);
                list.add(token);
            }
        }
    }

    int fault() {
        return fault;
    }

    int rule(int what) {
        return what == 0 ? people.size() : what == 1 ? law : what == 2 ? fee : what == 3 ? list.size() : BAD;
    }

    int worth(int l) {
        return l < 0 || l > 25 ? BAD : worths[l];
    }

    private boolean noOne(int p) {
        return p < 0 || p >= people.size();
    }

    private boolean noName(int n) {
        return n < 0 || n >= list.size();
    }

    private static int letterAt(String name, int what) {
        long i = (long) what - 10;
        return i < 0 || i >= name.length() ? BAD : name.charAt((int) i) - 'a';
    }

    int one(int p, int what) {
        if (noOne(p)) {
            return BAD;
        }
        One o = people.get(p);
        return what == 0 ? o.kind : what == 1 ? o.debt : what == 2 ? o.wealth : what == 3 ? o.name.length()
                : letterAt(o.name, what);
    }

    int listed(int n, int what) {
        if (noName(n)) {
            return BAD;
        }
        return what == 0 ? list.get(n).length() : what == 1 ? sumOf(list.get(n), 0) : letterAt(list.get(n), what);
    }

    int letter(int l, int v) {
        if (l < 0 || l > 25 || v < 0 || v > 40) {
            return BAD;
        }
        int was = worths[l];
        worths[l] = v;
        return was;
    }

    int law(int v) {
        if (v != 0 && v != 1) {
            return BAD;
        }
        int was = law;
        law = v;
        return was;
    }

    int fee(int v) {
        if (v < 1 || v > 9) {
            return BAD;
        }
        int was = fee;
        fee = v;
        return was;
    }

    int debt(int p, int v) {
        if (noOne(p) || v < 0 || v > 99) {
            return BAD;
        }
        int was = people.get(p).debt;
        people.get(p).debt = v;
        return was;
    }

    int wealth(int p, int v) {
        if (noOne(p) || v < 0 || v > 99) {
            return BAD;
        }
        int was = people.get(p).wealth;
        people.get(p).wealth = v;
        return was;
    }

    int become(int p, int kind) {
        if (noOne(p) || kind < 0 || kind > 4) {
            return BAD;
        }
        int was = people.get(p).kind;
        people.get(p).kind = kind;
        return was;
    }

    int bear(int n) {
        if (noName(n)) {
            return BAD;
        }
        if (people.size() == 8) {
            return FULL;
        }
        people.add(new One(0, list.get(n), 0, 0));
        return people.size() - 1;
    }

    int wed(int p, int q) {
        if (noOne(p) || noOne(q) || p == q) {
            return BAD;
        }
        if (people.get(p).kind == 1 || people.get(q).kind == 1) {
            return STATE;
        }
        String name = people.get(p).name + people.get(q).name;
        if (name.length() > 20) {
            return FULL;
        }
        people.get(p).name = name;
        people.get(q).name = name;
        return sum(p);
    }

    private int sumOf(String name, int kind) {
        int sum = 0;
        for (int i = 0; i < name.length(); i++) {
            int l = name.charAt(i) - 'a';
            boolean left = kind == 3 || kind == 2 && l >= 13;
            sum += left ? 0 : worths[l] * (law == 1 ? i + 1 : 1);
        }
        return sum;
    }

    int sum(int p) {
        return noOne(p) ? BAD : sumOf(people.get(p).name, people.get(p).kind);
    }

    /** The person of each one: "t3" a twin, else his sum. */
    private List<String> persons(List<One> of) {
        List<String> persons = new ArrayList<>();
        for (int i = 0; i < of.size(); i++) {
            persons.add(of.get(i).kind == 4 ? "t" + i : "" + sumOf(of.get(i).name, of.get(i).kind));
        }
        return persons;
    }

    private int personsOf(List<One> of) {
        return new HashSet<>(persons(of)).size();
    }

    int person(int p) {
        if (noOne(p)) {
            return BAD;
        }
        List<String> persons = persons(people);
        int bits = 0;
        for (int q = 0; q < people.size(); q++) {
            bits += persons.get(q).equals(persons.get(p)) ? 1 << q : 0;
        }
        return bits;
    }

    int persons() {
        return personsOf(people);
    }

    int lone() {
        int bits = 0;
        for (int p = 0; p < people.size(); p++) {
            bits += person(p) == 1 << p ? 1 << p : 0;
        }
        return bits;
    }

    int owes(int p) {
        if (noOne(p)) {
            return BAD;
        }
        int all = 0;
        for (int q = 0; q < people.size(); q++) {
            all += (person(p) >> q & 1) * people.get(q).debt;
        }
        return all;
    }

    int has(int p) {
        if (noOne(p)) {
            return BAD;
        }
        int all = 0;
        for (int q = 0; q < people.size(); q++) {
            all += (person(p) >> q & 1) * people.get(q).wealth;
        }
        return all;
    }

    int votes() {
        List<String> persons = persons(people);
        Set<String> voters = new HashSet<>();
        for (int p = 0; p < people.size(); p++) {
            if (people.get(p).kind != 1) {
                voters.add(persons.get(p));
            }
        }
        return voters.size();
    }

    int heirs(int s) {
        if (s < 0) {
            return BAD;
        }
        int bits = 0;
        for (int p = 0; p < people.size(); p++) {
            bits += people.get(p).kind != 1 && sum(p) == s ? 1 << p : 0;
        }
        return bits;
    }

    /** WORTH HAVING of p's person, if these were the people. */
    private int worthHaving(List<One> of, int p) {
        List<One> were = people;
        people = of;
        int value = 10000 + has(p) - owes(p);
        people = were;
        return value;
    }

    /** By each sum the name of the least raises, the first of several. */
    private TreeMap<Integer, String> changes(One one) {
        Map<Integer, String> best = new HashMap<>();
        best.put(0, "");
        for (int i = 0; i < one.name.length(); i++) {
            Map<Integer, String> next = new HashMap<>();
            char c = one.name.charAt(i);
            for (Map.Entry<Integer, String> e : best.entrySet()) {
                for (char d = c; d <= c + 3 && d <= 'z'; d++) {
                    String name = e.getValue() + d;
                    int s = sumOf(name, one.kind);
                    String other = next.get(s);
                    if (other == null || raises(one.name, name) < raises(one.name, other)
                            || raises(one.name, name) == raises(one.name, other) && name.compareTo(other) < 0) {
                        next.put(s, name);
                    }
                }
            }
            best = next;
        }
        return new TreeMap<>(best);
    }

    private static int raises(String from, String to) {
        int all = 0;
        for (int i = 0; i < to.length(); i++) {
            all += to.charAt(i) - from.charAt(i);
        }
        return all;
    }

    int change(int p, int s, int what) {
        if (noOne(p) || s < 0 || s > 9999 || what != 0 && letterAt(people.get(p).name, what) < 0) {
            return BAD;
        }
        String name = changes(people.get(p)).get(s);
        if (name == null) {
            return NONE;
        }
        return what == 0 ? fee * raises(people.get(p).name, name) : letterAt(name, what);
    }

    int rid(int p, int what) {
        if (noOne(p) || what < 0 || what > 2) {
            return BAD;
        }
        int[] best = null;
        for (Map.Entry<Integer, String> e : changes(people.get(p)).entrySet()) {
            List<One> then = copyOf(people);
            then.get(p).name = e.getValue();
            int cost = fee * raises(people.get(p).name, e.getValue());
            int value = worthHaving(then, p) - cost;
            if (best == null || value > best[0]) {
                best = new int[] {value, e.getKey(), cost};
            }
        }
        return best[what];
    }

    int call(int what) {
        if (what != 0 && what != 1) {
            return BAD;
        }
        if (list.isEmpty()) {
            return STATE;
        }
        int[] best = null;
        for (int n = 0; n < list.size(); n++) {
            List<One> then = copyOf(people);
            then.add(new One(0, list.get(n), 0, 0));
            int value = worthHaving(then, people.size());
            if (best == null || value > best[0]) {
                best = new int[] {value, n};
            }
        }
        return best[what];
    }

    int match(int what) {
        if (what != 0 && what != 1) {
            return BAD;
        }
        int[] best = {NONE, NONE};
        for (int p = 0; p < people.size(); p++) {
            for (int q = 0; q < people.size(); q++) {
                List<One> were = people;
                people = copyOf(were);
                if (wed(p, q) >= 0) {
                    int value = worthHaving(people, p);
                    if (value > best[0]) {
                        best = new int[] {value, 10 * p + q};
                    }
                }
                people = were;
            }
        }
        return best[what];
    }

    int crowd(int n, int what) {
        if (n < 0 || n > 3 || what != 0 && what != 1) {
            return BAD;
        }
        if (n > 0 && list.isEmpty()) {
            return STATE;
        }
        int[] bounds = {Integer.MAX_VALUE, 0};
        crowds(copyOf(people), n, bounds);
        return bounds[what];
    }

    private void crowds(List<One> then, int n, int[] bounds) {
        if (n == 0) {
            bounds[0] = Math.min(bounds[0], personsOf(then));
            bounds[1] = Math.max(bounds[1], personsOf(then));
            return;
        }
        for (String name : list) {
            then.add(new One(0, name, 0, 0));
            crowds(then, n - 1, bounds);
            then.remove(then.size() - 1);
        }
    }

    int part(int what) {
        if (what != 0 && what != 1) {
            return BAD;
        }
        int most = persons();
        int best = NONE;
        for (int l = 0; l < 26; l++) {
            int was = worths[l];
            for (int v = 0; v <= 40; v++) {
                worths[l] = v;
                if (persons() > most) {
                    most = persons();
                    best = 100 * l + v;
                }
            }
            worths[l] = was;
        }
        return best == NONE ? NONE : what == 0 ? best : most;
    }

    int know(int n, int s) {
        if (noName(n) || s < 0 || s > 999) {
            return BAD;
        }
        if (known.size() == 6) {
            return FULL;
        }
        known.add(new int[] {n, s});
        return known.size();
    }

    int forget(int n) {
        if (n < 0 || n > known.size()) {
            return BAD;
        }
        int was = known.size();
        known = new ArrayList<>(known.subList(0, n));
        return was;
    }

    int solve(int a, int b, int what) {
        if (a < 0 || a > 25 || b < 0 || b > 25 || a == b || what < 0 || what > 3) {
            return BAD;
        }
        List<Integer> pairs = new ArrayList<>();
        Set<Integer> ofA = new HashSet<>();
        Set<Integer> ofB = new HashSet<>();
        int wasA = worths[a];
        int wasB = worths[b];
        for (int x = 0; x <= 40; x++) {
            for (int y = 0; y <= 40; y++) {
                worths[a] = x;
                worths[b] = y;
                if (known.stream().allMatch(k -> sumOf(list.get(k[0]), 0) == k[1])) {
                    pairs.add(100 * x + y);
                    ofA.add(x);
                    ofB.add(y);
                }
            }
        }
        worths[a] = wasA;
        worths[b] = wasB;
        if (what == 0) {
            return pairs.size();
        }
        if (what == 1) {
            return pairs.isEmpty() ? NONE : pairs.get(0);
        }
        Set<Integer> of = what == 2 ? ofA : ofB;
        return of.size() == 1 ? of.iterator().next() : NONE;
    }

    int year(int seed, int n, int what) {
        if (n < 1 || n > 20 || what != 0 && what != 1) {
            return BAD;
        }
        if (list.isEmpty()) {
            return STATE;
        }
        List<One> were = people;
        people = copyOf(were);
        int s = seed;
        for (int i = 0; i < n; i++) {
            s = s * 1103515245 + 12345;
            int bits = (s & 0x7fffffff) >> 16;
            people.add(new One(0, list.get(bits % list.size()), 0, 0));
        }
        int answer = what == 0 ? persons() : Integer.bitCount(lone());
        people = were;
        return answer;
    }

    int keep(int k) {
        if (k != 0 && k != 1) {
            return BAD;
        }
        int was = images[k] == null ? 0 : 1;
        images[k] = new Image(people, worths, law, fee);
        return was;
    }

    int back(int k) {
        if (k != 0 && k != 1) {
            return BAD;
        }
        if (images[k] == null) {
            return STATE;
        }
        people = copyOf(images[k].people);
        worths = images[k].worths.clone();
        law = images[k].law;
        fee = images[k].fee;
        return people.size();
    }

    int sheet(int k, int lane, int n) {
        if (k < 0 || k > 3 || lane < 0 || lane > 2 || n > 40) {
            return BAD;
        }
        try {
            sheets[k] = lane == 0 ? new byte[n] : lane == 1 ? (Object) new short[n] : new int[n];
            return 1;
        } catch (NegativeArraySizeException e) {
            return -14;
        }
    }

    int lay(int k, int i, int v) {
        if (k < 0 || k > 3) {
            return BAD;
        }
        try {
            if (sheets[k] instanceof byte[] b) {
                b[i] = (byte) v;
            } else if (sheets[k] instanceof short[] s) {
                s[i] = (short) v;
            } else {
                ((int[]) sheets[k])[i] = v;
            }
            return 1;
        } catch (NullPointerException e) {
            return -11;
        } catch (ArrayIndexOutOfBoundsException e) {
            return -12;
        }
    }

    /** Here the machine itself finds the faults, as the document says that it does, of each WORTH by itself. */
    int read(int k, int lane, int f, int n) {
        if (k < 0 || k > 3 || lane < 0 || lane > 2 || n < 0 || n > 20) {
            return BAD;
        }
        List<int[]> whole = new ArrayList<>();
        int met = 0;
        try {
            for (int i = 0; i < n; i++) {
                byte[] bytes = lane == 0 ? (byte[]) sheets[k] : null;
                short[] shorts = lane == 1 ? (short[]) sheets[k] : null;
                int[] ints = lane == 2 ? (int[]) sheets[k] : null;
                int a = f + 2 * i;
                int l = lane == 0 ? bytes[a] : lane == 1 ? shorts[a] : ints[a];
                int v = lane == 0 ? bytes[a + 1] : lane == 1 ? shorts[a + 1] : ints[a + 1];
                if (l < 0 || l > 25 || v < 0 || v > 40) {
                    return -20 - i;
                }
                whole.add(new int[] {l, v});
            }
        } catch (NullPointerException e) {
            met = 1;
        } catch (ArrayIndexOutOfBoundsException e) {
            met = 2;
        } catch (ClassCastException e) {
            met = 3;
        }
        for (int[] pair : whole) {
            worths[pair[0]] = pair[1];
        }
        torn = met;
        return whole.size();
    }

    int torn() {
        return torn;
    }

    int count(int what) {
        switch (what) {
            case 0:
                return known.size();
            case 1:
                return (images[0] == null ? 0 : 1) + (images[1] == null ? 0 : 1);
            case 2:
                return tape.length();
            case 3:
                return sheets[0] == null ? NONE : java.lang.reflect.Array.getLength(sheets[0]);
            case 4:
                return people.stream().mapToInt(o -> o.name.length()).sum();
            case 5:
                return java.util.Arrays.stream(worths).sum();
            default:
                return BAD;
        }
    }
}

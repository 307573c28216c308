import java.util.ArrayList;
import java.util.List;
import java.util.Random;

/** All promises: long runs of calls, by fixed seeds, asked of the class and of Plain. */
public final class RandomTest {
    private static final int RUNS = 1500;

    /** A step may be a text, of some 110 calls; beyond 512 what an object answers is free. */
    private static final int CALLS = 390;

    private final Random random;
    private final SameMan man = new SameMan();
    private final Plain plain = new Plain();
    private final List<String> said = new ArrayList<>();
    private int calls = 0;

    private RandomTest(long seed) {
        random = new Random(seed);
    }

    public static void main(String[] args) {
        int runs = args.length > 0 ? Integer.parseInt(args[0]) : RUNS;
        for (int run = 0; run < runs && Check.wrong() == 0; run++) {
            new RandomTest(run).go();
        }
        Check.finish("RandomTest");
    }

    private void go() {
        tell();
        while (calls < CALLS && Check.wrong() == 0) {
            step();
        }
        Check.due("at most 512 calls, of " + calls, calls <= 512 ? 1 : 0, 1);
        if (Check.wrong() != 0) {
            said.forEach(System.out::println);
        }
    }

    private int below(int n) {
        return random.nextInt(n);
    }

    private boolean rarely() {
        return below(25) == 0;
    }

    /** A number from low to high, rarely one beside it or far off. */
    private int from(int low, int high) {
        if (rarely()) {
            int[] off = {low - 1, high + 1, Integer.MIN_VALUE, Integer.MAX_VALUE, -1, low - 2, high + 2};
            return off[below(off.length)];
        }
        return low + below(high - low + 1);
    }

    private int people() {
        return from(0, Math.max(0, plain.rule(0) - 1));
    }

    private int name() {
        return from(0, Math.max(0, plain.rule(3) - 1));
    }

    private void due(String call, int got, int want) {
        calls++;
        said.add(call + " -> " + want);
        Check.due(call, got, want);
    }

    private void step() {
        if (below(40) == 0) {
            tell();
        } else {
            switch (below(5)) {
                case 0 -> look();
                case 1 -> alter();
                case 2 -> count();
                case 3 -> plan();
                default -> sheets();
            }
        }
    }

    private void look() {
        int p = people();
        int n = name();
        int what = below(2) == 0 ? from(0, 3) : from(10, 15);
        int l = from(0, 25);
        switch (below(6)) {
            case 0 -> due("rule " + what, man.rule(what), plain.rule(what));
            case 1 -> due("worth " + l, man.worth(l), plain.worth(l));
            case 2 -> due("one " + p + " " + what, man.one(p, what), plain.one(p, what));
            case 3 -> due("listed " + n + " " + what, man.listed(n, what), plain.listed(n, what));
            case 4 -> due("count " + what, man.count(what), plain.count(what));
            default -> due("count " + (what & 7), man.count(what & 7), plain.count(what & 7));
        }
    }

    private void alter() {
        int p = people();
        int q = people();
        int n = name();
        int v = from(0, 99);
        switch (below(12)) {
            case 0 -> {
                int l = from(0, 7);
                int w = below(2) == 0 ? from(0, 40) : from(0, 4);
                due("letter " + l + " " + w, man.letter(l, w), plain.letter(l, w));
            }
            case 1 -> {
                int w = from(0, 1);
                due("law " + w, man.law(w), plain.law(w));
            }
            case 2 -> {
                int w = from(1, 9);
                due("fee " + w, man.fee(w), plain.fee(w));
            }
            case 3 -> due("debt " + p + " " + v, man.debt(p, v), plain.debt(p, v));
            case 4 -> due("wealth " + p + " " + v, man.wealth(p, v), plain.wealth(p, v));
            case 5 -> {
                int k = from(0, 4);
                due("become " + p + " " + k, man.become(p, k), plain.become(p, k));
            }
            case 6 -> due("bear " + n, man.bear(n), plain.bear(n));
            case 7 -> due("wed " + p + " " + q, man.wed(p, q), plain.wed(p, q));
            case 8 -> {
                int k = from(0, 1);
                due("keep " + k, man.keep(k), plain.keep(k));
            }
            case 9, 10 -> {
                int k = from(0, 1);
                due("back " + k, man.back(k), plain.back(k));
            }
            default -> {
                int w = from(0, plain.count(0));
                due("forget " + w, man.forget(w), plain.forget(w));
            }
        }
    }

    private void count() {
        int p = people();
        switch (below(9)) {
            case 0 -> due("sum " + p, man.sum(p), plain.sum(p));
            case 1 -> due("person " + p, man.person(p), plain.person(p));
            case 2 -> due("persons", man.persons(), plain.persons());
            case 3 -> due("lone", man.lone(), plain.lone());
            case 4 -> due("owes " + p, man.owes(p), plain.owes(p));
            case 5 -> due("has " + p, man.has(p), plain.has(p));
            case 6 -> due("votes", man.votes(), plain.votes());
            case 7 -> {
                int s = below(2) == 0 ? Math.max(0, plain.sum(p)) : from(0, 20);
                due("heirs " + s, man.heirs(s), plain.heirs(s));
            }
            default -> {
                due("fault", man.fault(), plain.fault());
                due("torn", man.torn(), plain.torn());
            }
        }
    }

    private void plan() {
        int p = people();
        int what = from(0, 1);
        switch (below(10)) {
            case 0 -> {
                int near = Math.max(0, plain.sum(p)) + below(12) - 2;
                int s = rarely() ? from(0, 9999) : near;
                int w = below(2) == 0 ? 0 : from(10, 9 + Math.max(1, plain.one(p, 3)));
                due("change " + p + " " + s + " " + w, man.change(p, s, w), plain.change(p, s, w));
            }
            case 1 -> {
                int w = from(0, 2);
                due("rid " + p + " " + w, man.rid(p, w), plain.rid(p, w));
            }
            case 2 -> due("call " + what, man.call(what), plain.call(what));
            case 3 -> due("match " + what, man.match(what), plain.match(what));
            case 4 -> {
                int n = from(0, 3);
                due("crowd " + n + " " + what, man.crowd(n, what), plain.crowd(n, what));
            }
            case 5 -> due("part " + what, man.part(what), plain.part(what));
            case 6, 7 -> {
                int n = name();
                int s = below(3) == 0 ? from(0, 999) : Math.max(0, plain.listed(n, 1));
                due("know " + n + " " + s, man.know(n, s), plain.know(n, s));
            }
            case 8 -> {
                int a = from(0, 5);
                int b = from(0, 5);
                int w = from(0, 3);
                due("solve " + a + " " + b + " " + w, man.solve(a, b, w), plain.solve(a, b, w));
            }
            default -> {
                int seed = random.nextInt();
                int n = from(1, 20);
                due("year " + seed + " " + n + " " + what, man.year(seed, n, what), plain.year(seed, n, what));
            }
        }
    }

    private void sheets() {
        int k = from(0, 3);
        int lane = below(3) == 0 ? from(0, 2) : Math.min(2, Math.max(0, k));
        switch (below(8)) {
            case 0 -> {
                int n = below(4) == 0 ? from(0, 40) : from(0, 8);
                due("sheet " + k + " " + lane + " " + n, man.sheet(k, lane, n), plain.sheet(k, lane, n));
            }
            case 1, 2, 3, 4 -> {
                int i = from(0, 7);
                int v = below(6) == 0 ? random.nextInt() : from(0, 25);
                due("lay " + k + " " + i + " " + v, man.lay(k, i, v), plain.lay(k, i, v));
            }
            default -> {
                int f = from(0, 5);
                int n = below(3) == 0 ? from(0, 20) : from(0, 2);
                due("read " + k + " " + lane + " " + f + " " + n, man.read(k, lane, f, n), plain.read(k, lane, f, n));
                due("torn", man.torn(), plain.torn());
            }
        }
    }

    /** Puts a text on the tape, mostly one without a fault, and has it told. */
    private void tell() {
        StringBuilder text = new StringBuilder();
        int lines = rarely() ? 24 : 3 + below(12);
        for (int i = 0; i < lines; i++) {
            line(text);
        }
        if (below(4) == 0 && text.length() > 0) {
            spoil(text);
        }
        said.clear();
        feed(text);
        due("text " + text, man.text(), plain.text());
        due("fault", man.fault(), plain.fault());
    }

    private void feed(StringBuilder text) {
        int bytes = Math.min(320, text.length());
        for (int i = 0; i < text.length(); i += 8) {
            long v = 0;
            for (int j = i; j < i + 8; j++) {
                v = v << 8 | (j < text.length() ? text.charAt(j) & 0xff : ' ');
            }
            due("feed", man.feed(v), plain.feed(v));
        }
        if (!rarely()) {
            due("end " + bytes, man.end(bytes), plain.end(bytes));
        }
        int n = from(0, 320);
        if (rarely()) {
            due("end " + n, man.end(n), plain.end(n));
        }
    }

    private void spoil(StringBuilder text) {
        int at = below(text.length());
        switch (below(4)) {
            case 0 -> text.setCharAt(at, (char) below(256));
            case 1 -> text.deleteCharAt(at);
            case 2 -> text.insert(at, "a1; 9z0".charAt(below(7)));
            default -> text.setLength(at);
        }
    }

    private String word(int most) {
        StringBuilder word = new StringBuilder();
        int length = rarely() ? 9 + below(3) : 1 + below(most);
        for (int i = 0; i < length; i++) {
            word.append((char) (below(8) == 0 ? 'a' + below(26) : 'a' + below(5)));
        }
        return word.toString();
    }

    private void line(StringBuilder text) {
        String gap = below(4) == 0 ? "  " : " ";
        switch (below(12)) {
            case 0 -> {
                if (text.indexOf("law") < 0 || rarely()) {
                    text.append("law").append(gap).append(below(2)).append(";");
                }
            }
            case 1 -> {
                if (text.indexOf("fee") < 0 || rarely()) {
                    text.append("fee").append(gap).append(1 + below(9)).append(";");
                }
            }
            case 2 -> {
                String l = word(1).substring(0, 1);
                if (text.indexOf("letter " + l) < 0 || rarely()) {
                    text.append("letter ").append(l).append(gap).append(below(rarely() ? 44 : 41)).append(";");
                }
            }
            case 3, 4, 5, 6, 7 -> {
                String[] kinds = {"plain", "plain", "plain", "dead", "foreign", "mute", "twin"};
                text.append("one ").append(kinds[below(7)]).append(gap).append(word(4)).append(gap)
                        .append(below(100)).append(gap).append(below(100)).append(";");
            }
            case 8, 9 -> {
                text.append("list");
                for (int n = below(3); n >= 0; n--) {
                    text.append(gap).append(word(3));
                }
                text.append(";");
            }
            case 10 -> text.append("known").append(gap).append(below(2)).append(gap).append(below(20)).append(";");
            default -> text.append(rarely() ? "list;" : gap);
        }
    }
}

import java.util.ArrayList;
import java.util.HashMap;
import java.util.List;
import java.util.Map;

/** Long mixed runs of calls, each answer compared with that of a second program of another make: people are objects
 *  of classes, a text is a tree, and nothing is kept from call to call that the document doesn't tell of. */
public final class ModelTest {
    /** Behind its 512th call an object may answer what it likes: the longest READ takes some 60 of them. */
    private static final int RUNS = 600, CALLS = 300, MOST_CALLS = 450;

    public static void main(String[] args) {
        int runs = args.length > 0 ? Integer.parseInt(args[0]) : RUNS;
        long first = args.length > 1 ? Long.parseLong(args[1]) : 1;
        int wrong = everyEdge() + everyShortText();
        for (int r = 0; r < runs && wrong < 5; r++) {
            wrong += oneRun(first + r) ? 0 : 1;
        }
        System.out.println(runs + " runs of up to " + CALLS + " calls, " + (wrong == 0 ? "all answers are as due" : "not as due"));
        if (wrong != 0) {
            System.exit(1);
        }
    }

    private static boolean oneRun(long seed) {
        Dice dice = new Dice(seed);
        BellOfLies x = new BellOfLies();
        Model m = new Model();
        StringBuilder told = new StringBuilder();
        int made = 0;
        for (int i = 0; i < CALLS && made < MOST_CALLS; i++) {
            Call call = Call.drawn(dice, m);
            made += call.size();
            long want = call.on(m);
            long got;
            try {
                got = call.on(x);
            } catch (RuntimeException e) {
                System.out.println("run " + seed + told + " " + call + " threw " + e);
                return false;
            }
            told.append(' ').append(call).append('=').append(want);
            if (got != want) {
                System.out.println("run " + seed + ":" + told + " but answered " + got);
                return false;
            }
        }
        return true;
    }

    /** Each call with each mix of numbers at the document's bounds and next to them, on towns empty, small and full. */
    private static int everyEdge() {
        Call[] small = { new Call("person", 14, 40, 61455), new Call("person", 23, 50, 16777215), Call.reading("lies nerve<90;costs 2-last;strokes 1+more;"),
            new Call("force", 1), new Call("put", 1, 1, 7), new Call("strike"), new Call("image"), new Call("clock", 9995),
            new Call("film", 0, 24), new Call("sheet", 1, 0, 24), new Call("sheet", 2, 1, 25) };
        Call[] full = { new Call("person", 0, 30, 16777215), new Call("person", 11, 30, 4095), new Call("person", 22, 30, 16777215),
            new Call("person", 30, 30, 16777215), new Call("person", 44, 30, 85), new Call("person", 55, 30, 0), Call.reading("lies 1;costs 1;strokes 99;"),
            Call.reading("lies told;costs -1;strokes hour;"), Call.reading("lies nerve;costs 1;strokes 1;"), Call.reading("lies 0;costs 0;strokes 9;"),
            Call.reading("lies 1;costs 0;strokes people;"), new Call("force", 1), new Call("strike"), new Call("image"), new Call("put", 5, 3, 1),
            new Call("film", 0, 24), new Call("sheet", 1, 2, 40), new Call("film", 3, 1), new Call("clock", 9999) };
        Call[][] towns = { {}, small, full };
        int calls = 0;
        int wrong = 0;
        for (Call[] town : towns) {
            for (String[] names : new String[][] { Calls.ASKING, Calls.CHANGING }) {
                for (String name : names) {
                    int made = edgesOf(town, name);
                    calls += Math.abs(made);
                    wrong += made < 0 ? 1 : 0;
                }
            }
        }
        System.out.println(calls + " calls at the bounds, " + (wrong == 0 ? "all answers are as due" : "not as due"));
        return wrong;
    }

    /** How many calls were made; below 0, if one answered otherwise. An object has 300 of them, then it is made anew. */
    private static int edgesOf(Call[] town, String name) {
        int[][] edges = Calls.edges(name);
        int[] wheels = new int[edges.length];
        BellOfLies x = null;
        Model m = null;
        int made = 0;
        do {
            if (made % CALLS == 0) {
                x = new BellOfLies();
                m = new Model();
                for (Call call : town) {
                    call.on(x);
                    call.on(m);
                }
            }
            Call call = new Call(name, Calls.numbers(wheels, edges));
            made++;
            long want = call.on(m);
            long got = call.on(x);
            if (got != want) {
                System.out.println("at the bounds, a town of " + m.people.size() + ": " + call + " answered " + got + ", due is " + want);
                return -made;
            }
        } while (Calls.turn(wheels, edges));
        return made;
    }

    /** Each row of up to four TOKENS behind each of these, read by both. */
    private static int everyShortText() {
        String[] tokens = { "1", "nerve", "12345", "x", "!", "(", ")", ";", "+", "-", "*", "<", "=", "or ", "and ", "not ", "lies ", "costs ", "strokes " };
        String[] aheads = { "lies ", "lies ((((", "lies not -(-", "lies 1;costs " };
        int texts = 0;
        for (String ahead : aheads) {
            for (int n = 0; n <= 4; n++) {
                int rows = (int) Math.pow(tokens.length, n);
                for (int row = 0; row < rows; row++) {
                    StringBuilder text = new StringBuilder(ahead);
                    for (int i = 0, left = row; i < n; i++, left /= tokens.length) {
                        text.append(tokens[left % tokens.length]).append(row % 2 == 0 ? "" : " ");
                    }
                    texts++;
                    if (!readAlike(text + ";strokes 1;") || !readAlike(text + ";costs 1;strokes 1;")) {
                        return 1;
                    }
                }
            }
        }
        System.out.println(2 * texts + " short texts, all answers are as due");
        return 0;
    }

    private static boolean readAlike(String text) {
        BellOfLies x = new BellOfLies();
        Call call = Call.reading(text);
        long want = call.on(new Model());
        long got = call.on(x);
        if (got != want) {
            System.out.println("the text " + text + " answered " + got + ", due is " + want);
        }
        return got == want;
    }

    /** A row of numbers of its own, the same in each run of the test. */
    static final class Dice {
        private long state;

        Dice(long seed) {
            state = seed * 0x9E3779B97F4A7C15L + 12345;
        }

        int below(int n) {
            state ^= state << 13;
            state ^= state >>> 7;
            state ^= state << 17;
            return (int) Math.floorMod(state >>> 11, (long) n);
        }

        int any(int... of) {
            return of[below(of.length)];
        }

        /** Mostly within, at times at the edges or far outside. */
        int about(int least, int most) {
            int n = below(40);
            if (n == 0) {
                return any(Integer.MIN_VALUE, Integer.MAX_VALUE, -1, 0, 1, most * 2, -most);
            }
            return n <= 2 ? any(least - 1, least, most, most + 1) : least + below(most - least + 1);
        }
    }

    static final class Call {
        private static final String[] NAMES = { "count", "clock", "feed", "text", "force", "asks", "person", "put", "tells",
            "bell", "strike", "run", "when", "dial", "hush", "council", "lesson", "pair", "mean", "share", "judge", "kinds",
            "nerves", "turned", "hours", "laws", "film", "drawn", "odds", "image", "back", "sheet", "cell", "copy", "townBy",
            "taken", "READ", "READ", "film", "film", "film", "force" };
        private final String name;
        private final int[] a;
        private String text = "";

        private Call(String name, int... a) {
            this.name = name;
            this.a = a;
        }

        static Call reading(String text) {
            Call call = new Call("READ");
            call.text = text;
            return call;
        }

        static Call drawn(Dice d, Model m) {
            String name = m.people.size() < 3 && d.below(3) == 0 ? "person" : NAMES[d.below(NAMES.length)];
            switch (name) {
                case "count": return new Call(name, d.about(0, 6));
                case "clock": return new Call(name, d.about(0, d.any(9999, 50)));
                case "feed": return new Call(name, d.about(1, 5), d.about(0, 255), d.about(97, 122), d.about(32, 64), d.about(0, 255), d.about(97, 99));
                case "force": return new Call(name, d.about(0, m.texts.size()));
                case "asks": return new Call(name, d.about(0, 2), d.about(0, 5));
                case "person": return new Call(name, d.about(0, 59), d.about(0, d.any(10, 99)), own(d));
                case "put": return put(d);
                case "tells": return new Call(name, d.about(0, 5), d.about(0, 8));
                case "bell": return new Call(name, d.about(0, 3));
                case "run": return new Call(name, d.about(0, 48), d.any(d.about(0, 2), d.about(10, 15), d.about(20, 25)));
                case "when": return new Call(name, d.about(0, d.any(4, 20, 999)));
                case "dial": return new Call(name, d.about(0, 4));
                case "hush": case "pair": return new Call(name, d.about(0, 1));
                case "council": return new Call(name, d.about(0, 24), d.about(0, d.any(4, 20)), d.about(0, 1));
                case "lesson": case "share": return new Call(name, d.about(0, 5), d.about(0, 1));
                case "mean": return new Call(name, d.about(1, 48), d.about(0, 1));
                case "judge": case "turned": case "hours": case "laws": return new Call(name, tolding(d, m));
                case "kinds": case "nerves": return new Call(name, tolding(d, m), d.about(0, 5), d.about(0, 1));
                case "film": return new Call(name, d.about(0, 3), d.about(0, d.any(24, 6)));
                case "drawn": return new Call(name, d.about(0, 99999), d.about(0, 48), d.about(0, 1));
                case "odds": return new Call(name, d.about(0, 99999), d.about(1, 40), d.about(0, d.any(9999, 100)), d.about(0, 1));
                case "sheet": return new Call(name, d.about(0, 3), d.about(-1, 2), d.about(0, 40));
                case "cell": return new Call(name, d.about(0, 3), d.about(0, d.any(39, 6)), d.any(d.about(0, 60), d.about(0, 99), d.below(1 << 25), own(d), d.about(-70000, 70000)));
                case "copy": return new Call(name, d.about(0, 3), d.about(0, 20), d.about(0, 3), d.about(0, 20), d.about(0, 20));
                case "townBy": return new Call(name, d.about(0, 3), d.about(0, 2), d.about(0, 20), d.about(0, 6));
                case "taken": return new Call(name, d.about(0, 11), d.about(0, 6));
                case "READ": return read(d);
                default: return new Call(name);
            }
        }

        /** Mostly a sheet that tells strokes. */
        private static int tolding(Dice d, Model m) {
            int s = d.about(0, 3);
            for (int i = 0; i < 4 && d.below(6) > 0; i++) {
                if (m.rows[i] instanceof int[] told && told.length > 0 && told.length <= 24) {
                    s = d.below(3) == 0 ? s : i;
                }
            }
            return s;
        }

        private static int own(Dice d) {
            return d.any(d.about(0, 16777215), 16777215, 0, 1 << d.below(24), (1 << d.below(24)) - 1, 0x555555);
        }

        private static Call put(Dice d) {
            int what = d.about(0, 3);
            int v = what == 0 ? d.about(0, 99) : what == 1 ? d.about(0, 9999) : what == 2 ? own(d) : d.about(0, 1);
            return new Call("put", d.about(0, 5), what, v);
        }

        private static Call read(Dice d) {
            StringBuilder b = new StringBuilder();
            b.append("lies ").append(d.below(3) == 0 ? "1" : sum(d, 4)).append(';');
            b.append("costs ").append(sum(d, 3)).append(';');
            b.append("strokes ").append(sum(d, 3)).append(';');
            if (d.below(3) == 0) {
                int at = d.below(b.length());
                String[] in = { " ", "\n", "(", ")", "not ", "-", "9", "x", "<", ";", "*", "or", "\u00ff", "_" };
                if (d.below(2) == 0) {
                    b.insert(at, in[d.below(in.length)]);
                } else {
                    b.deleteCharAt(at);
                }
            }
            return reading(b.toString());
        }

        private static String sum(Dice d, int depth) {
            String[] ones = { "nerve", "told", "hour", "last", "people", "more", "0", "1", "2", "5", "12", "99", "9999", "00000" };
            int n = depth == 0 ? 0 : d.below(14);
            if (n < 4) {
                return ones[d.below(d.below(30) == 0 ? ones.length : ones.length - 1)];
            }
            String a = sum(d, depth - 1);
            String b = sum(d, depth - 1);
            switch (n) {
                case 4: return a + "+" + b;
                case 5: return a + " - " + b;
                case 6: return a + "*" + b;
                case 7: return a + "<" + b;
                case 8: return a + " =\n" + b;
                case 9: return a + " and " + b;
                case 10: return a + " or " + b;
                case 11: return "not " + a;
                case 12: return "-" + a;
                default: return "(" + a + ")";
            }
        }

        /** How many calls it takes of the program. */
        int size() {
            return 1 + Answers.feedsOf(text).length;
        }

        long on(Model m) {
            if (name.equals("READ")) {
                for (int[] feed : Answers.feedsOf(text)) {
                    m.feed(feed);
                }
                return m.text();
            }
            return m.answer(name, a);
        }

        long on(BellOfLies x) {
            if (name.equals("READ")) {
                Answers.feedAll(x, text);
                return x.text();
            }
            return Calls.on(x, name, a);
        }

        @Override public String toString() {
            StringBuilder b = new StringBuilder(name).append('(').append(text.replace("\n", "\\n"));
            for (int i = 0; i < a.length; i++) {
                b.append(i == 0 ? "" : ", ").append(a[i]);
            }
            return b.append(')').toString();
        }
    }

    // ---- the second program

    interface Tree {
        int at(Map<String, Integer> names);
    }

    static final class Fault extends Exception {
        final int place;

        Fault(int place) {
            super(null, null, false, false);
            this.place = place;
        }
    }

    record Token(String sort, String text, int place) { }

    /** Reads by trees; a token's sort is its own text, or NUMBER, NAME, END, ODD. */
    static final class Reading {
        private final List<Token> tokens = new ArrayList<>();
        private int next = 0;

        Reading(List<Integer> tape) {
            StringBuilder b = new StringBuilder();
            for (int v : tape) {
                b.append((char) v);
            }
            String s = b.toString();
            java.util.regex.Matcher m = java.util.regex.Pattern.compile("[a-z]+|[0-9]+|[();+\\-*<=]|[^ \\n]", java.util.regex.Pattern.DOTALL).matcher(s);
            while (m.find()) {
                String t = m.group();
                boolean key = List.of("lies", "costs", "strokes", "or", "and", "not").contains(t);
                boolean name = List.of("nerve", "told", "hour", "last", "people", "more").contains(t);
                boolean number = t.matches("[0-9]{1,4}");
                boolean sign = "();+-*<=".contains(t);
                tokens.add(new Token(number ? "NUMBER" : name ? "NAME" : key || sign ? t : "ODD", t, m.start()));
            }
            tokens.add(new Token("END", "", s.length()));
        }

        Tree[] whole() throws Fault {
            Tree[] parts = new Tree[3];
            String[] keys = { "lies", "costs", "strokes" };
            for (int i = 0; i < 3; i++) {
                must(keys[i]);
                parts[i] = either(0);
                must(";");
            }
            must("END");
            return parts;
        }

        private boolean is(String sort) {
            return tokens.get(next).sort().equals(sort);
        }

        private Token must(String sort) throws Fault {
            if (!is(sort)) {
                throw new Fault(tokens.get(next).place());
            }
            return tokens.get(next++);
        }

        private boolean may(String sort) {
            if (is(sort) && !sort.equals("END")) {
                next++;
                return true;
            }
            return false;
        }

        private int open(int open) throws Fault {
            if (open == 5) {
                throw new Fault(tokens.get(next).place());
            }
            next++;
            return open + 1;
        }

        private Tree either(int open) throws Fault {
            Tree t = both(open);
            while (may("or")) {
                Tree a = t;
                Tree b = both(open);
                t = n -> a.at(n) != 0 | b.at(n) != 0 ? 1 : 0;
            }
            return t;
        }

        private Tree both(int open) throws Fault {
            Tree t = not(open);
            while (may("and")) {
                Tree a = t;
                Tree b = not(open);
                t = n -> a.at(n) != 0 & b.at(n) != 0 ? 1 : 0;
            }
            return t;
        }

        private Tree not(int open) throws Fault {
            if (is("not")) {
                Tree a = not(open(open));
                return n -> a.at(n) == 0 ? 1 : 0;
            }
            Tree a = sum(open);
            if (may("<")) {
                Tree b = sum(open);
                return n -> a.at(n) < b.at(n) ? 1 : 0;
            }
            if (may("=")) {
                Tree b = sum(open);
                return n -> a.at(n) == b.at(n) ? 1 : 0;
            }
            return a;
        }

        private Tree sum(int open) throws Fault {
            Tree t = term(open);
            while (is("+") || is("-")) {
                int sign = is("+") ? 1 : -1;
                next++;
                Tree a = t;
                Tree b = term(open);
                t = n -> a.at(n) + sign * b.at(n);
            }
            return t;
        }

        private Tree term(int open) throws Fault {
            Tree t = one(open);
            while (may("*")) {
                Tree a = t;
                Tree b = one(open);
                t = n -> a.at(n) * b.at(n);
            }
            return t;
        }

        private Tree one(int open) throws Fault {
            if (is("-")) {
                Tree a = one(open(open));
                return n -> -a.at(n);
            }
            if (is("(")) {
                Tree a = either(open(open));
                must(")");
                return a;
            }
            if (is("NAME")) {
                String name = must("NAME").text();
                return n -> n.get(name);
            }
            int v = Integer.parseInt(must("NUMBER").text());
            return n -> v;
        }
    }

    static class Person {
        int kind, more, nerve, told, own;
        boolean vow;

        static Person of(int kind) {
            Person p = kind == 0 ? new Person() : kind == 1 ? new Lover() : kind == 2 ? new Trader()
                : kind == 3 ? new Waiting() : kind == 4 ? new Poet() : new Mad();
            p.kind = kind;
            return p;
        }

        Person asKind(int k) {
            Person p = of(k);
            p.more = more;
            p.nerve = nerve;
            p.told = told;
            p.own = own;
            p.vow = vow;
            return p;
        }

        boolean inOwn(Model m) {
            return (own & 1 << m.hour % 24) != 0;
        }

        boolean would(Model m) {
            return m.says(0, this) != 0 && inOwn(m);
        }

        boolean lies(Model m) {
            return !vow && would(m);
        }

        int costs(Model m) {
            return m.says(1, this);
        }

        int strokes(Model m) {
            return m.says(2, this);
        }
    }

    static class Lover extends Person {
        @Override boolean would(Model m) {
            return m.says(0, this) != 0 && (inOwn(m) || m.hour % 24 % 12 == more);
        }

        @Override int costs(Model m) {
            int c = super.costs(m);
            return c < 0 ? -(-c / 2) : c / 2;
        }
    }

    static class Trader extends Person {
        @Override int costs(Model m) {
            return m.last >= 5 ? 0 : super.costs(m);
        }

        @Override int strokes(Model m) {
            return super.strokes(m) + more;
        }
    }

    static final class Waiting extends Lover {
        @Override boolean would(Model m) {
            return m.last > more && super.would(m);
        }

        @Override int strokes(Model m) {
            return super.strokes(m) * 2;
        }
    }

    static final class Poet extends Trader {
        @Override boolean would(Model m) {
            return inOwn(m);
        }

        @Override int strokes(Model m) {
            return m.hour % 24 % 3 == 0 ? 0 : super.strokes(m);
        }
    }

    static final class Mad extends Person {
        @Override boolean would(Model m) {
            return true;
        }

        @Override int strokes(Model m) {
            return 0;
        }
    }

    static final class Model {
        final List<Person> people = new ArrayList<>();
        int hour, toll, last, law;
        List<Tree[]> texts = new ArrayList<>();
        List<Integer> tape = new ArrayList<>();
        final Object[] rows = new Object[4];
        Model image = null;

        Model() {
            texts.add(new Tree[] { n -> n.get("nerve"), n -> 1, n -> 1 });
        }

        Model thought() {
            Model m = new Model();
            m.texts = texts;
            m.hour = hour;
            m.toll = toll;
            m.last = last;
            m.law = law;
            for (Person p : people) {
                m.people.add(p.asKind(p.kind));
            }
            return m;
        }

        int says(int part, Person p) {
            Map<String, Integer> names = new HashMap<>();
            names.put("nerve", p.nerve);
            names.put("told", Math.min(99, p.told));
            names.put("hour", hour % 24);
            names.put("last", last);
            names.put("people", people.size());
            names.put("more", p.more);
            int v = texts.get(law)[part].at(names);
            int least = part == 1 ? -99 : 0;
            return v < least ? least : v > 99 ? 99 : v;
        }

        int who() {
            int bits = 0;
            for (Person p : people) {
                bits += p.lies(this) ? 1 << people.indexOf(p) : 0;
            }
            return bits;
        }

        int strokes() {
            return people.stream().filter(p -> p.lies(this)).mapToInt(p -> p.strokes(this)).sum();
        }

        int pass() {
            int strikes = strokes();
            List<Person> liars = people.stream().filter(p -> p.lies(this)).toList();
            for (Person p : liars) {
                p.nerve -= p.costs(this);
                p.nerve = p.nerve < 0 ? 0 : p.nerve > 99 ? 99 : p.nerve;
                p.told = p.told == 9999 ? 9999 : p.told + 1;
            }
            last = strikes > 99 ? 99 : strikes;
            toll = Math.min(999999, toll + strikes);
            hour++;
            return strikes;
        }

        int[] strikesOf(int n) {
            Model m = thought();
            int[] row = new int[n];
            for (int h = 0; h < n; h++) {
                row[h] = m.pass();
            }
            return row;
        }

        static int total(int[] row) {
            int all = 0;
            for (int v : row) {
                all += v;
            }
            return all;
        }

        Model after(int n) {
            Model m = thought();
            for (int h = 0; h < n; h++) {
                m.pass();
            }
            return m;
        }

        static boolean in(int v, int least, int most) {
            return least <= v && v <= most;
        }

        boolean has(int p) {
            return p >= 0 && p < people.size();
        }

        static int dialOf(int[] row, int what) {
            Map<Integer, Integer> often = new HashMap<>();
            int longest = 0;
            int most = 0;
            for (int i = 0; i < row.length; i++) {
                often.merge(row[i], 1, Integer::sum);
                most = Math.max(most, row[i]);
                int j = i;
                while (j < row.length && row[j] == row[i]) {
                    j++;
                }
                longest = Math.max(longest, j - i);
            }
            switch (what) {
                case 0: return (int) often.values().stream().filter(n -> n == 1).count();
                case 1: return longest;
                case 2: return often.getOrDefault(0, 0);
                case 3: return most;
                default:
                    int i = 0;
                    while (row[i] != most) {
                        i++;
                    }
                    return i;
            }
        }

        static long ratio(int above, int below, int part) {
            for (int d = below; d > 1; d--) {
                if (above % d == 0 && below % d == 0) {
                    return part == 0 ? above / d : below / d;
                }
            }
            return part == 0 ? above : below;
        }

        long answer(String name, int[] a) {
            switch (name) {
                case "count": {
                    int[] all = { people.size(), hour, toll, texts.size(), law, tape.size(), last };
                    return in(a[0], 0, 6) ? all[a[0]] : -2;
                }
                case "clock": {
                    int was = hour;
                    if (!in(a[0], 0, 9999)) {
                        return -2;
                    }
                    hour = a[0];
                    return was;
                }
                case "feed": return feed(a);
                case "text": return text();
                case "force": {
                    if (!in(a[0], 0, texts.size() - 1)) {
                        return -2;
                    }
                    int was = law;
                    law = a[0];
                    return was;
                }
                case "asks": return in(a[0], 0, 2) && has(a[1]) ? says(a[0], people.get(a[1])) : -1000;
                case "person": return person(a[0], a[1], a[2]);
                case "put": return put(a[0], a[1], a[2]);
                case "tells": return tells(a[0], a[1]);
                case "bell": return a[0] == 0 ? who() : a[0] == 1 ? strokes() : a[0] == 2 ? toll : a[0] == 3 ? vows() : -2;
                case "strike": return hour == 9999 ? -3 : pass();
                case "run": return run(a[0], a[1]);
                case "when": return when(a[0]);
                case "dial": return in(a[0], 0, 4) ? dialOf(strikesOf(24), a[0]) : -2;
                case "hush": return hush(a[0]);
                case "council": return council(a[0], a[1], a[2]);
                case "lesson": return lesson(a[0], a[1]);
                case "pair": return pair(a[0]);
                case "mean": return in(a[0], 1, 48) && in(a[1], 0, 1) ? ratio(total(strikesOf(a[0])), a[0], a[1]) : BellOfLies.NO;
                case "share": return share(a[0], a[1]);
                case "judge": case "kinds": case "nerves": case "turned": case "hours": case "laws": return tolds(name, a);
                case "film": {
                    if (!in(a[0], 0, 3)) {
                        return -2;
                    }
                    if (!in(a[1], 0, 24)) {
                        return -7;
                    }
                    rows[a[0]] = strikesOf(a[1]);
                    return a[1];
                }
                case "drawn": return in(a[0], 0, 99999) && in(a[1], 0, 48) && in(a[2], 0, 1) ? drawn(a[0], a[1], a[2]) : -2;
                case "odds": return odds(a[0], a[1], a[2], a[3]);
                case "image":
                    image = thought();
                    return people.size();
                case "back": return back();
                case "sheet": case "cell": case "copy": case "townBy": return host(name, a);
                case "taken": return taken(a[0], a[1]);
                default: throw new IllegalStateException(name);
            }
        }

        int feed(int... a) {
            boolean good = in(a[0], 1, 5);
            for (int i = 1; i < 6; i++) {
                good &= in(a[i], 0, 255);
            }
            if (!good) {
                return -2;
            }
            if (tape.size() + a[0] > 160) {
                return -4;
            }
            for (int i = 1; i <= a[0]; i++) {
                tape.add(a[i]);
            }
            return tape.size();
        }

        int text() {
            if (texts.size() == 6) {
                return -4;
            }
            List<Integer> was = tape;
            tape = new ArrayList<>();
            try {
                texts.add(new Reading(was).whole());
                return texts.size() - 1;
            } catch (Fault f) {
                return -100 - f.place;
            }
        }

        int person(int kindMore, int nerve, int own) {
            if (!in(kindMore, 0, 59) || !in(nerve, 0, 99) || !in(own, 0, (1 << 24) - 1)) {
                return -2;
            }
            if (people.size() == 6) {
                return -4;
            }
            Person p = Person.of(kindMore / 10);
            p.more = kindMore % 10;
            p.nerve = nerve;
            p.own = own;
            people.add(p);
            return people.size() - 1;
        }

        int put(int p, int what, int v) {
            if (!has(p)) {
                return -5;
            }
            int[] most = { 99, 9999, (1 << 24) - 1, 1 };
            if (!in(what, 0, 3) || !in(v, 0, most[what])) {
                return -7;
            }
            int was = tells(p, what);
            Person one = people.get(p);
            if (what == 0) {
                one.nerve = v;
            } else if (what == 1) {
                one.told = v;
            } else if (what == 2) {
                one.own = v;
            } else {
                one.vow = v == 1;
            }
            return was;
        }

        int tells(int p, int what) {
            if (!has(p)) {
                return -5;
            }
            Person one = people.get(p);
            int[] all = { one.nerve, one.told, one.own, one.vow ? 1 : 0, one.kind, one.more, one.lies(this) ? 1 : 0,
                1000 + one.costs(this), one.strokes(this) };
            return in(what, 0, 8) ? all[what] : -7;
        }

        int vows() {
            int bits = 0;
            for (int p = 0; p < people.size(); p++) {
                bits |= people.get(p).vow ? 1 << p : 0;
            }
            return bits;
        }

        int run(int n, int what) {
            if (!in(n, 0, 48)) {
                return -2;
            }
            Model then = after(n);
            if (in(what, 10, 15) && has(what - 10)) {
                return then.people.get(what - 10).nerve;
            }
            if (in(what, 20, 25) && has(what - 20)) {
                return then.people.get(what - 20).told;
            }
            return what == 0 ? total(strikesOf(n)) : what == 1 ? then.strokes() : what == 2 ? then.who() : -2;
        }

        int when(int strokes) {
            if (!in(strokes, 0, 999)) {
                return -2;
            }
            int[] row = strikesOf(61);
            for (int h = 0; h < 61; h++) {
                if (row[h] == strokes) {
                    return h;
                }
            }
            return -1;
        }

        Model turned(int p) {
            Model m = thought();
            m.people.get(p).vow = !m.people.get(p).vow;
            return m;
        }

        int hush(int what) {
            if (!in(what, 0, 1)) {
                return -2;
            }
            int[] best = { -1, dialOf(strikesOf(24), 0) };
            for (int p = 0; p < people.size(); p++) {
                int so = dialOf(turned(p).strikesOf(24), 0);
                if (so > best[1]) {
                    best = new int[] { p, so };
                }
            }
            return best[what];
        }

        int council(int n, int strokes, int what) {
            if (!in(n, 0, 24) || !in(strokes, 0, 999) || !in(what, 0, 1)) {
                return -2;
            }
            for (int size = 0; size <= 6; size++) {
                for (int set = 0; set < 1 << people.size(); set++) {
                    if (Integer.bitCount(set) != size || (set & vows()) != 0) {
                        continue;
                    }
                    Model m = thought();
                    for (int p = 0; p < people.size(); p++) {
                        m.people.get(p).vow |= (set >> p & 1) != 0;
                    }
                    if (m.after(n).strokes() == strokes) {
                        return what == 0 ? set : size;
                    }
                }
            }
            return -1;
        }

        int lesson(int p, int what) {
            if (!has(p)) {
                return -5;
            }
            if (!in(what, 0, 1)) {
                return -7;
            }
            int[] best = { -1, -1 };
            for (int h = 0; h < 24; h++) {
                Model m = thought();
                m.people.get(p).own ^= 1 << h;
                int so = total(m.strikesOf(24));
                if (so > best[1]) {
                    best = new int[] { h, so };
                }
            }
            return best[what];
        }

        int pair(int what) {
            if (!in(what, 0, 1)) {
                return -2;
            }
            int[] best = { -1, -1 };
            for (int p = 0; p < people.size(); p++) {
                for (int q = p + 1; q < people.size(); q++) {
                    Model m = thought();
                    int so = 0;
                    for (int h = 0; h < 24; h++) {
                        so += m.people.get(p).lies(m) && m.people.get(q).lies(m) ? 1 : 0;
                        m.pass();
                    }
                    if (so > best[1]) {
                        best = new int[] { 10 * p + q, so };
                    }
                }
            }
            return best[what];
        }

        long share(int p, int part) {
            int all = people.stream().mapToInt(q -> q.told).sum();
            return has(p) && in(part, 0, 1) && all > 0 ? ratio(people.get(p).told, all, part) : BellOfLies.NO;
        }

        long numberOf(Object row, int i) {
            return row instanceof byte[] b ? b[i] : row instanceof short[] s ? s[i] : ((int[]) row)[i];
        }

        int judge(Object row) {
            int n = java.lang.reflect.Array.getLength(row);
            int[] so = strikesOf(n);
            for (int i = 0; i < n; i++) {
                if (so[i] != numberOf(row, i)) {
                    return i;
                }
            }
            return -1;
        }

        int tolds(String name, int[] a) {
            if (!in(a[0], 0, 3)) {
                return -2;
            }
            Object row = rows[a[0]];
            if (row == null) {
                return -11;
            }
            if (java.lang.reflect.Array.getLength(row) > 24) {
                return -2;
            }
            if (a.length == 3 && !has(a[1])) {
                return -5;
            }
            if (a.length == 3 && !in(a[2], 0, 1)) {
                return -7;
            }
            if (name.equals("judge")) {
                return judge(row);
            }
            int tried = name.equals("kinds") ? (a[2] == 0 ? 6 : 10) : name.equals("nerves") ? 100
                : name.equals("turned") ? people.size() : name.equals("hours") ? 24 : texts.size();
            List<Integer> fit = new ArrayList<>();
            for (int v = 0; v < tried; v++) {
                if (otherwise(name, a, v).judge(row) == -1) {
                    fit.add(v);
                }
            }
            if (name.equals("nerves")) {
                return a[2] == 0 ? fit.size() : fit.isEmpty() ? -1 : fit.get(0);
            }
            return fit.stream().mapToInt(v -> 1 << v).sum();
        }

        Model otherwise(String name, int[] a, int v) {
            Model m = thought();
            switch (name) {
                case "kinds":
                    if (a[2] == 0) {
                        m.people.set(a[1], m.people.get(a[1]).asKind(v));
                    } else {
                        m.people.get(a[1]).more = v;
                    }
                    return m;
                case "nerves":
                    m.people.get(a[1]).nerve = v;
                    return m;
                case "turned": return turned(v);
                case "hours":
                    m.hour = v;
                    return m;
                default:
                    m.law = v;
                    return m;
            }
        }

        int drawn(int seed, int n, int what) {
            Model m = thought();
            java.math.BigInteger lot = java.math.BigInteger.valueOf(seed).add(java.math.BigInteger.ONE);
            int[] all = new int[2];
            for (int h = 0; h < n; h++) {
                lot = lot.multiply(java.math.BigInteger.valueOf(48271)).mod(java.math.BigInteger.valueOf(2147483647));
                int p = lot.intValue() & 7;
                if (m.has(p)) {
                    m.people.get(p).vow = !m.people.get(p).vow;
                }
                all[1] += Integer.bitCount(m.who());
                all[0] += m.pass();
            }
            return all[what];
        }

        long odds(int seed, int seeds, int least, int part) {
            if (!in(seed, 0, 99999) || !in(seeds, 1, 40) || !in(least, 0, 9999) || !in(part, 0, 1)) {
                return BellOfLies.NO;
            }
            int so = 0;
            for (int s = seed; s < seed + seeds; s++) {
                so += drawn(s, 12, 0) >= least ? 1 : 0;
            }
            return ratio(so, seeds, part);
        }

        int back() {
            if (image == null) {
                return -3;
            }
            while (people.size() > image.people.size()) {
                people.remove(people.size() - 1);
            }
            for (int p = 0; p < people.size(); p++) {
                people.get(p).nerve = image.people.get(p).nerve;
                people.get(p).told = image.people.get(p).told;
                people.get(p).own = image.people.get(p).own;
                people.get(p).vow = image.people.get(p).vow;
            }
            hour = image.hour;
            toll = image.toll;
            last = image.last;
            law = image.law;
            return people.size();
        }

        /** Here the machine's own refusals are the host's. */
        int host(String name, int[] a) {
            if (!in(a[0], 0, 3) || name.equals("copy") && !in(a[2], 0, 3)) {
                return -2;
            }
            try {
                switch (name) {
                    case "sheet": {
                        if (!in(a[1], -1, 2) || a[1] >= 0 && a[2] > 40) {
                            return -2;
                        }
                        rows[a[0]] = a[1] < 0 ? null : a[1] == 0 ? new byte[a[2]] : a[1] == 1 ? new short[a[2]] : new int[a[2]];
                        return 1;
                    }
                    case "cell": {
                        Object row = rows[a[0]];
                        if (row instanceof byte[] b) {
                            b[a[1]] = (byte) a[2];
                        } else if (row instanceof short[] s) {
                            s[a[1]] = (short) a[2];
                        } else {
                            ((int[]) row)[a[1]] = a[2];
                        }
                        return 1;
                    }
                    case "copy":
                        System.arraycopy(rows[a[0]], a[1], rows[a[2]], a[3], a[4]);
                        return a[4];
                    default: return townBy(a[0], a[1], a[2], a[3]);
                }
            } catch (NegativeArraySizeException e) {
                return -14;
            } catch (NullPointerException e) {
                return -11;
            } catch (IndexOutOfBoundsException e) {
                return -12;
            } catch (ArrayStoreException | ClassCastException e) {
                return -13;
            }
        }

        int townBy(int s, int sort, int from, int n) {
            if (!in(sort, 0, 2) || !in(n, 0, 6)) {
                return -2;
            }
            Class<?>[] sorts = { byte[].class, short[].class, int[].class };
            rows[s].getClass();
            sorts[sort].cast(rows[s]);
            int came = 0;
            for (int k = 0; k < n; k++) {
                int[] triple = new int[3];
                for (int i = 0; i < 3; i++) {
                    long at = (long) from + 3 * k + i;
                    java.util.Objects.checkIndex(at, (long) java.lang.reflect.Array.getLength(rows[s]));
                    triple[i] = (int) numberOf(rows[s], (int) at);
                }
                came += person(triple[0], triple[1], triple[2]) >= 0 ? 1 : 0;
            }
            return came;
        }

        int taken(int i, int kind) {
            if (!in(kind, 0, 6)) {
                return -2;
            }
            if (!in(i, 0, 11)) {
                return -12;
            }
            if (!has(i % 6)) {
                return -11;
            }
            Person p = people.get(i % 6);
            if (i >= 6) {
                return kind == 6 ? p.own : -13;
            }
            Class<?>[] classes = { Person.class, Lover.class, Trader.class, Waiting.class, Poet.class, Mad.class };
            return kind < 6 && classes[kind].isInstance(p) ? i : -13;
        }
    }
}

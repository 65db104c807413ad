import java.math.BigInteger;

/** What the tests share: the answer that is due, towns told in a line, and all that can be seen of a town. */
abstract class Answers {
    static final int ALL = 16777215;
    static final int LEAST = Integer.MIN_VALUE, MOST = Integer.MAX_VALUE;
    static final int BAD = -2, STATE = -3, FULL = -4, NO_PERSON = -5, WRONG = -7;
    static final int MISSING = -11, OUTSIDE = -12, UNLIKE = -13, BELOW_ZERO = -14;
    static final long NO = -4611686018427387904L;
    static final String FREE = "lies 1;costs 0;strokes 1;";

    private static int wrong = 0, calls = 0, sentences = 0;
    private static String sentence = "";

    /** Where in the document the answers to come are told, and by which words. */
    static void sentence(String where, String words) {
        sentences++;
        sentence = where + " «" + words + "»: ";
    }

    static void due(String call, long got, long want) {
        calls++;
        if (got != want) {
            wrong++;
            System.out.println(sentence + call + " answered " + got + ", due is " + want);
        }
    }

    static void same(String call, String got, String want) {
        calls++;
        if (!got.equals(want)) {
            wrong++;
            System.out.println(sentence + call + " left other answers:\n  " + got + "\n  due is\n  " + want);
        }
    }

    static void finish() {
        String of = sentences == 0 ? "" : " for " + sentences + " sentences";
        System.out.println(calls + " calls" + of + ", " + (wrong == 0 ? "all answers are as due" : wrong + " not as due"));
        if (wrong != 0 || calls == 0) {
            System.exit(1);
        }
    }

    // ---- towns

    static BellOfLies town(int... triples) {
        BellOfLies x = new BellOfLies();
        for (int i = 0; i + 2 < triples.length; i += 3) {
            due("person", x.person(triples[i], triples[i + 1], triples[i + 2]), i / 3);
        }
        return x;
    }

    static BellOfLies ruledTown(String text, int... triples) {
        BellOfLies x = town(triples);
        rule(x, text);
        return x;
    }

    /** The people, behind them a PERSON under a VOW whose lie at HOUR 0 made LAST what it is; the HOUR is 0 again. */
    static BellOfLies townAfter(int last, String text, int... triples) {
        BellOfLies x = town(triples);
        int teller = triples.length / 3;
        for (int p = 0; p < teller; p++) {
            x.put(p, 3, 1);
        }
        x.person(0, 0, ALL);
        rule(x, "lies 1;costs 0;strokes " + last + ";");
        due("strike", x.strike(), last);
        due("LAST", x.count(6), last);
        for (int p = 0; p < teller; p++) {
            x.put(p, 3, 0);
        }
        x.put(teller, 3, 1);
        x.clock(0);
        rule(x, text);
        return x;
    }

    /** The numbers of the feed() calls, as few as can be, by which the bytes come behind the tape's. */
    static int[][] feedsOf(String text) {
        int[][] feeds = new int[(text.length() + 4) / 5][6];
        for (int i = 0; i < text.length(); i++) {
            feeds[i / 5][0]++;
            feeds[i / 5][i % 5 + 1] = text.charAt(i);
        }
        return feeds;
    }

    static void feedAll(BellOfLies x, String text) {
        for (int[] feed : feedsOf(text)) {
            Calls.on(x, "feed", feed);
        }
    }

    static int read(BellOfLies x, String text) {
        feedAll(x, text);
        return x.text();
    }

    static void rule(BellOfLies x, String text) {
        int t = read(x, text);
        due("text of the law " + text, t > 0 ? 1 : 0, 1);
        x.force(t);
    }

    /** A sheet of ints. */
    static void row(BellOfLies x, int s, int... numbers) {
        x.sheet(s, 2, numbers.length);
        for (int i = 0; i < numbers.length; i++) {
            x.cell(s, i, numbers[i]);
        }
    }

    /** The HOURS of the day as bits. */
    static int at(int... hours) {
        int bits = 0;
        for (int h : hours) {
            bits |= 1 << h;
        }
        return bits;
    }

    /** Of a crowd's first n LOTS each modulo 8: whose VOW is turned. */
    static int[] turnsOf(int seed, int n) {
        BigInteger lot = BigInteger.valueOf(seed).add(BigInteger.ONE);
        int[] turns = new int[n];
        for (int i = 0; i < n; i++) {
            lot = lot.multiply(BigInteger.valueOf(48271)).mod(BigInteger.valueOf(2147483647));
            turns[i] = lot.mod(BigInteger.valueOf(8)).intValue();
        }
        return turns;
    }

    // ---- all that can be seen

    /** What a town answers to a long row of calls, the last of which change it: like rows, like towns. About 300 calls. */
    static String seen(BellOfLies x) {
        StringBuilder b = new StringBuilder();
        b.append("counts").append(counts(x));
        b.append(" people").append(people(x));
        for (int s = 0; s < 4; s++) {
            b.append(" sheet ").append(s).append(':').append(x.judge(s)).append(' ').append(sizeOf(x, s)).append(' ').append(sortOf(x, s));
        }
        feedAll(x, "sts 7;strokes 8;");
        b.append(" tape ").append(x.count(5)).append(' ').append(x.text()).append(" texts");
        for (int t = 0; t <= x.count(3); t++) {
            b.append(' ').append(x.force(t));
            for (int part = 0; part < 3; part++) {
                b.append(' ').append(x.asks(part, 0));
            }
        }
        b.append(" image ").append(x.back()).append(counts(x)).append(people(x));
        return b.toString();
    }

    private static String counts(BellOfLies x) {
        StringBuilder b = new StringBuilder();
        for (int what = 0; what < 7; what++) {
            b.append(' ').append(x.count(what));
        }
        return b.append(' ').append(x.bell(0)).append(' ').append(x.bell(1)).append(' ').append(x.bell(3)).toString();
    }

    private static String people(BellOfLies x) {
        StringBuilder b = new StringBuilder();
        for (int p = 0; p < x.count(0); p++) {
            for (int what = 0; what < 9; what++) {
                b.append(' ').append(x.tells(p, what));
            }
        }
        return b.toString();
    }

    /** -11 of a missing one. */
    private static int sizeOf(BellOfLies x, int s) {
        int least = 0;
        int most = 40;
        if (x.copy(s, 0, s, 0, 0) == MISSING) {
            return MISSING;
        }
        while (least < most) {
            int n = (least + most + 1) / 2;
            boolean inside = x.copy(s, 0, s, 0, n) == n;
            least = inside ? n : least;
            most = inside ? most : n - 1;
        }
        return least;
    }

    private static int sortOf(BellOfLies x, int s) {
        int sort = 0;
        while (sort < 3 && x.townBy(s, sort, 0, 0) != 0) {
            sort++;
        }
        return sort;
    }
}

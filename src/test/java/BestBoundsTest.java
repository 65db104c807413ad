import java.math.BigInteger;

/** Promises 16 to 30, what is best, told strokes, crowds: each sentence that names a bound, at it and beyond it. */
public final class BestBoundsTest extends Answers {
    private static final String MORES = "lies 1;costs 0;strokes more;";

    public static void main(String[] args) {
        hushOfMore();
        hushOfLikeOnes();
        hushRefused();
        councilOfFewest();
        councilOfNone();
        councilOfFreeOnes();
        councilRefused();
        lessonTurnsAnHour();
        lessonOfLikeOnes();
        lessonRefused();
        pairOfTwo();
        pairOfLikeOnes();
        pairRefused();
        meanInLowestTerms();
        meanRefused();
        shareInLowestTerms();
        shareRefused();
        judgeFirstOtherwise();
        judgeSizes();
        toldRefusals();
        kindsThatFit();
        moresThatFit();
        nervesThatFit();
        turnedThatFit();
        hoursThatFit();
        lawsThatFit();
        filmTruly();
        filmRefused();
        drawnHours();
        drawnRefused();
        oddsOfSeeds();
        oddsRefused();
        finish();
    }

    // ---- what is best

    private static void hushOfMore() {
        sentence("Promise 16", "if more than so, of like ones the first (what 0; -1: nobody), how many (1; as so)");
        BellOfLies x = new BellOfLies();
        due("of nobody", x.hush(0), -1);
        due("as so", x.hush(1), 0);
        x = ruledTown("lies 1;costs 0;strokes hour;", 0, 0, ALL);
        due("24 can't be more", x.hush(0), -1);
        due("24", x.hush(1), 24);
        x.put(0, 3, 1);
        due("free of the VOW it would be 24", x.hush(0), 0);
        due("24", x.hush(1), 24);
        x = ruledTown("lies 1;costs 0;strokes more*(hour=0);", 1, 0, ALL, 2, 0, ALL);
        due("as many are not more", x.hush(0), -1);
        due("as so", x.hush(1), 1);
        due("VOWS stay", x.bell(3), 0);
    }

    /** Strokes 1 at hour 0 and at hour 1, of a different one each: whoever is under a VOW leaves one hour alone. */
    private static void hushOfLikeOnes() {
        sentence("Promise 16", "of like ones the first (what 0; -1: nobody), how many (1; as so)");
        BellOfLies x = ruledTown(FREE, 0, 0, 0, 0, 0, at(0), 0, 0, at(1));
        due("none is alone", x.dial(0), 0);
        due("1 ahead of 2", x.hush(0), 1);
        due("one", x.hush(1), 1);
        x = ruledTown(FREE, 0, 0, 0, 0, 0, 0, 0, 0, 0, 0, 0, at(0), 0, 0, at(0), 0, 0, at(1));
        x.put(4, 3, 1);
        due("1 and 1", x.dial(0), 0);
        due("4 again makes 2 and 1, as 3 would make 0 and 1", x.hush(1), 2);
        due("most, though 3 is ahead", x.hush(0), 4);
        due("VOWS stay", x.bell(3), 16);
        x = ruledTown(FREE, 0, 0, 0, 0, 0, 0, 0, 0, 0, 0, 0, 0, 0, 0, 0, 0, 0, at(23));
        x.put(5, 3, 1);
        due("the last one, by the last HOUR", x.hush(0), 5);
        due("one", x.hush(1), 1);
    }

    private static void hushRefused() {
        sentence("Promise 16", "(what 0; -1: nobody), how many (1; as so). BAD.");
        int[] bad = { -1, 2, LEAST, MOST };
        for (int what : bad) {
            due("hush(" + what + ") of nobody, ahead of a -1", new BellOfLies().hush(what), BAD);
            due("hush(" + what + ")", town(0, 9, ALL).hush(what), BAD);
        }
    }

    private static void councils(String what, BellOfLies x, int n, int strokes, int set, int size) {
        due(what + ": council(" + n + ", " + strokes + ", 0)", x.council(n, strokes, 0), set);
        due(what + ": council(" + n + ", " + strokes + ", 1)", x.council(n, strokes, 1), size);
    }

    private static void councilOfFewest() {
        sentence("Promise 17", "that of fewest, of like ones the least as bits (what 0; bits; -1: none), of how many (1; -1).");
        BellOfLies x = ruledTown(MORES, 1, 0, ALL, 1, 0, ALL, 2, 0, ALL, 2, 0, ALL, 4, 0, ALL, 8, 0, ALL);
        councils("none is needed", x, 0, 18, 0, 0);
        councils("1 of two like ones", x, 0, 17, 1, 1);
        councils("one of 2 ahead of two of 1", x, 0, 16, 4, 1);
        councils("1 and 2, the least bits", x, 0, 15, 5, 2);
        councils("one of 4 ahead of two of 2", x, 0, 14, 16, 1);
        councils("one of 8", x, 0, 10, 32, 1);
        councils("all six", x, 0, 0, 63, 6);
        councils("all six at the last HOUR", x, 24, 0, 63, 6);
        councils("five", x, 24, 1, 61, 5);
        councils("more than all", x, 0, 19, -1, -1);
        due("VOWS stay", x.bell(3), 0);
        councils("nobody is needed", new BellOfLies(), 24, 0, 0, 0);
        councils("nobody strikes", new BellOfLies(), 0, 1, -1, -1);
    }

    /** Behind n HOURS by VOWS from now on: the first pays NERVE only while it isn't under one. */
    private static void councilOfNone() {
        sentence("Promise 17", "from now on, STRIKES behind n HOURS (0 .. 24) would be just so many (0 .. 999)");
        BellOfLies x = town(0, 24, ALL, 0, 25, ALL);
        councils("now both LIE", x, 0, 2, 0, 0);
        councils("behind 23 both do", x, 23, 2, 0, 0);
        councils("behind 24 the first has no NERVE", x, 24, 2, -1, -1);
        councils("behind 24 only the second does", x, 24, 1, 0, 0);
        councils("behind 24 none, by the VOW of the second", x, 24, 0, 2, 1);
        x = ruledTown("lies 1;costs 0;strokes 99-(91-hour)*(more=9);",
            9, 0, ALL, 30, 0, ALL, 30, 0, ALL, 30, 0, ALL, 30, 0, ALL, 30, 0, ALL);
        councils("999", x, 1, 999, 0, 0);
        councils("998 never", x, 1, 998, -1, -1);
        councils("less one of 198", x, 1, 801, 2, 1);
        due("1000 is BAD, though it is so behind 2", x.council(2, 1000, 0), BAD);
        x.clock(9998);
        councils("HOUR may pass 9999", x, 24, 0, 1, 1);
    }

    private static void councilOfFreeOnes() {
        sentence("Promise 17", "Of all sets of those who aren't under a VOW");
        BellOfLies x = ruledTown(MORES, 1, 0, ALL, 2, 0, ALL, 4, 0, ALL);
        x.put(0, 3, 1);
        councils("it has its VOW", x, 0, 6, 0, 0);
        councils("it can't be had", x, 0, 7, -1, -1);
        councils("of the others", x, 0, 4, 2, 1);
        councils("both others", x, 0, 0, 6, 2);
        x.put(1, 3, 1);
        x.put(2, 3, 1);
        councils("there is only the empty set", x, 0, 0, 0, 0);
        councils("there is only the empty set", x, 0, 1, -1, -1);
        due("VOWS stay", x.bell(3), 7);
    }

    private static void councilRefused() {
        sentence("Promise 17", "n HOURS (0 .. 24) [..] so many (0 .. 999) [..] BAD.");
        BellOfLies x = town(0, 9, ALL);
        int[] hours = { -1, 25, LEAST, MOST };
        int[] strokes = { -1, 1000, LEAST, MOST };
        int[] whats = { -1, 2, LEAST, MOST };
        for (int i = 0; i < 4; i++) {
            due("n " + hours[i], x.council(hours[i], 1, 0), BAD);
            due("strokes " + strokes[i], x.council(0, strokes[i], 0), BAD);
            due("what " + whats[i], x.council(0, 1, whats[i]), BAD);
            due("what " + whats[i] + ", ahead of a -1", x.council(0, 9, whats[i]), BAD);
            due("n " + hours[i] + " of nobody", new BellOfLies().council(hours[i], 0, 1), BAD);
        }
        due("n 0, strokes 0", x.council(0, 0, 0), 1);
        due("n 24, strokes 999", x.council(24, 999, 1), -1);
    }

    private static void lessonTurnsAnHour() {
        sentence("Promise 18", "were just that one of OWN now, if it isn't, or not, if it is, STRIKES of THE DAY, together, would be most");
        BellOfLies x = ruledTown("lies 1;costs 0;strokes hour;", 0, 0, at(23), 0, 0, at(22));
        due("23 is OWN: 22", x.lesson(0, 0), 22);
        due("23 + 22 + 22", x.lesson(0, 1), 67);
        due("the other's 23", x.lesson(1, 0), 23);
        due("22 + 23 + 23", x.lesson(1, 1), 68);
        x.put(0, 2, ALL);
        due("without hour 0", x.lesson(0, 0), 0);
        due("all but 0, and 22", x.lesson(0, 1), 276 + 22);
        x.put(0, 2, ALL - 1);
        due("with hour 0", x.lesson(0, 0), 0);
        due("all, and 22", x.lesson(0, 1), 298);
        x.put(0, 2, 0);
        x.clock(9999);
        due("the HOUR of the day, though it is 15", x.lesson(0, 0), 23);
        due("OWN stays", x.tells(0, 2), 0);
    }

    private static void lessonOfLikeOnes() {
        sentence("Promise 18", "of like ones the first (what 0), how many (1).");
        BellOfLies x = ruledTown(FREE, 50, 0, ALL, 0, 0, 7, 0, 0, ALL);
        due("a MAD one's hours are all alike", x.lesson(0, 0), 0);
        due("as it is", x.lesson(0, 1), 27);
        due("of 3 .. 23 the first", x.lesson(1, 0), 3);
        due("one more", x.lesson(1, 1), 28);
        due("any is one less: the first", x.lesson(2, 0), 0);
        due("one less", x.lesson(2, 1), 26);
        x.put(1, 3, 1);
        due("who is under a VOW gives none", x.lesson(1, 1), 24);
        due("the first", x.lesson(1, 0), 0);
    }

    private static void lessonRefused() {
        sentence("Promise 18", "-5: none such; -7: what.");
        BellOfLies x = town(0, 9, ALL);
        int[] people = { -1, 1, 6, LEAST, MOST };
        int[] whats = { -1, 2, LEAST, MOST };
        for (int p : people) {
            due("lesson(" + p + ", 0)", x.lesson(p, 0), NO_PERSON);
            due("-5 is told ahead", x.lesson(p, 2), NO_PERSON);
        }
        for (int what : whats) {
            due("lesson(0, " + what + ")", x.lesson(0, what), WRONG);
        }
        due("of nobody", new BellOfLies().lesson(0, 0), NO_PERSON);
    }

    private static void pairOfTwo() {
        sentence("Promise 19", "(what 0; -1: there are no two), in how many (1; -1)");
        BellOfLies x = new BellOfLies();
        rule(x, FREE);
        for (int people = 0; people < 2; people++) {
            due("pair(0) of " + people, x.pair(0), -1);
            due("pair(1) of " + people, x.pair(1), -1);
            x.person(0, 0, ALL);
        }
        due("pair(0) of 2", x.pair(0), 1);
        due("pair(1) of 2", x.pair(1), 24);
        x.put(1, 3, 1);
        due("two who LIE together in none", x.pair(0), 1);
        due("in none", x.pair(1), 0);
    }

    private static void pairOfLikeOnes() {
        sentence("Promise 19", "10 times one, and another one of a greater number, who both LIE in most HOURS of THE DAY, of like ones the least such number");
        for (int p = 0; p < 6; p++) {
            for (int q = p + 1; q < 6; q++) {
                BellOfLies x = ruledTown(FREE, 0, 0, 1, 0, 0, 1, 0, 0, 1, 0, 0, 1, 0, 0, 1, 0, 0, 1);
                due("all alike: 0 and 1", x.pair(0), 1);
                due("in one", x.pair(1), 1);
                x.put(p, 2, at(0, 23));
                x.put(q, 2, at(0, 23));
                due(p + " and " + q, x.pair(0), 10 * p + q);
                due("in two", x.pair(1), 2);
            }
        }
        BellOfLies x = ruledTown(FREE, 0, 0, at(0), 0, 0, at(1), 0, 0, at(2, 3), 0, 0, at(3, 4), 0, 0, at(4, 5), 0, 0, at(3, 5));
        due("2, 3 ahead of 2, 5 and 3, 4", x.pair(0), 23);
        due("in one", x.pair(1), 1);
        x.put(3, 3, 1);
        due("2, 5 ahead of 4, 5", x.pair(0), 25);
    }

    private static void pairRefused() {
        sentence("Promise 19", "in how many (1; -1). BAD.");
        int[] bad = { -1, 2, LEAST, MOST };
        for (int what : bad) {
            due("pair(" + what + ") of nobody, ahead of a -1", new BellOfLies().pair(what), BAD);
            due("pair(" + what + ")", town(0, 9, ALL, 0, 9, ALL).pair(what), BAD);
        }
    }

    // ---- by the line

    private static void meanInLowestTerms() {
        sentence("Promise 20", "STRIKES of n HOURS (1 .. 48), together, by n: part 0 above, 1 below the line, in lowest terms.");
        for (int nerve = 0; nerve <= 49; nerve++) {
            BellOfLies x = town(0, nerve, ALL);
            int[] hours = { 1, 2, 3, 4, 24, 47, 48 };
            for (int n : hours) {
                int above = Math.min(nerve, n);
                int by = BigInteger.valueOf(above).gcd(BigInteger.valueOf(n)).intValue();
                due(above + " of " + n, x.mean(n, 0), above / by);
                due("by " + n + " of " + above, x.mean(n, 1), n / by);
            }
        }
        due("0 of 48", new BellOfLies().mean(48, 0), 0);
        due("by 1", new BellOfLies().mean(48, 1), 1);
        BellOfLies x = townAfter(1, "lies 1;costs 0;strokes 99;", 30, 0, ALL, 30, 0, ALL, 30, 0, ALL, 30, 0, ALL, 30, 0, ALL);
        x.put(5, 3, 0);
        due("the most", x.mean(48, 0), 1089);
        due("by 1", x.mean(48, 1), 1);
    }

    private static void meanRefused() {
        sentence("Promise 20", "NO: n, part.");
        BellOfLies x = town(0, 9, ALL);
        int[] hours = { 0, -1, 49, LEAST, MOST };
        int[] parts = { -1, 2, LEAST, MOST };
        for (int n : hours) {
            due("mean(" + n + ", 0)", x.mean(n, 0), NO);
            due("mean(" + n + ", 1)", x.mean(n, 1), NO);
        }
        for (int part : parts) {
            due("mean(1, " + part + ")", x.mean(1, part), NO);
        }
    }

    private static void shareInLowestTerms() {
        sentence("Promise 21", "TOLD of one, of that of all, together: part 0 above, 1 below the line, in lowest terms.");
        BellOfLies x = town(0, 0, 0, 0, 0, 0, 0, 0, 0, 0, 0, 0, 0, 0, 0, 0, 0, 0);
        x.put(5, 1, 1);
        due("1 of 1", x.share(5, 0), 1);
        due("1 of 1", x.share(5, 1), 1);
        due("0 of 1", x.share(0, 0), 0);
        due("0 of 1", x.share(0, 1), 1);
        x.put(0, 1, 9999);
        due("9999 of 10000", x.share(0, 0), 9999);
        due("9999 of 10000", x.share(0, 1), 10000);
        due("0 of 10000", x.share(1, 1), 1);
        for (int p = 0; p < 6; p++) {
            x.put(p, 1, 9999);
        }
        for (int p = 0; p < 6; p++) {
            due("1 of 6", x.share(p, 0), 1);
            due("1 of 6", x.share(p, 1), 6);
        }
        x.put(3, 1, 6);
        due("6 of 50001", x.share(3, 0), 2);
        due("6 of 50001", x.share(3, 1), 16667);
    }

    private static void shareRefused() {
        sentence("Promise 21", "NO: none such, that is 0.");
        BellOfLies x = town(0, 0, ALL, 0, 0, ALL);
        due("that is 0", x.share(0, 0), NO);
        due("that is 0", x.share(1, 1), NO);
        due("of nobody", new BellOfLies().share(0, 0), NO);
        x.put(1, 1, 1);
        int[] people = { -1, 2, 6, LEAST, MOST };
        int[] parts = { -1, 2, LEAST, MOST };
        for (int p : people) {
            due("share(" + p + ", 0)", x.share(p, 0), NO);
        }
        for (int part : parts) {
            due("share(1, " + part + ")", x.share(1, part), NO);
        }
        due("share(0, 0)", x.share(0, 0), 0);
        x.put(1, 1, 0);
        due("that is 0 again", x.share(1, 0), NO);
    }

    // ---- told strokes

    private static void judgeFirstOtherwise() {
        sentence("Promise 22", "A SHEET tells STRIKES of this HOUR, the next one, .. (24 at most): the first number (from 0) that is otherwise; -1: none.");
        for (int s = 0; s < 4; s++) {
            BellOfLies x = ruledTown("lies 1;costs 0;strokes hour;", 0, 0, ALL);
            x.clock(9998 + s % 2);
            x.film(s, 24);
            due("none", x.judge(s), -1);
            for (int i = 23; i >= 0; i--) {
                x.cell(s, i, i % 2 == 0 ? -1 : 99);
                due("number " + i + " and all behind it", x.judge(s), i);
            }
        }
        BellOfLies x = ruledTown("lies 1;costs 0;strokes hour;", 0, 0, ALL);
        row(x, 0, LEAST);
        due("least", x.judge(0), 0);
        row(x, 0, 0, 1, MOST);
        due("most", x.judge(0), 2);
        due("HOUR stays", x.count(1), 0);
    }

    private static void judgeSizes() {
        sentence("Promise 22", "BAD: SHEET; -11; BAD: it tells more than 24.");
        BellOfLies x = new BellOfLies();
        for (int sort = 0; sort < 3; sort++) {
            x.sheet(0, sort, 0);
            due("none", x.judge(0), -1);
            x.sheet(0, sort, 24);
            due("24", x.judge(0), -1);
            x.cell(0, 23, 1);
            due("24, the last otherwise", x.judge(0), 23);
            x.sheet(0, sort, 25);
            due("25", x.judge(0), BAD);
            x.cell(0, 0, 1);
            due("25, the first otherwise", x.judge(0), BAD);
            x.sheet(0, sort, 40);
            due("40", x.judge(0), BAD);
            x.sheet(0, -1, 0);
            due("missing", x.judge(0), MISSING);
        }
    }

    private static long told(BellOfLies x, String name, int s, int p, int what) {
        return name.equals("kinds") || name.equals("nerves") ? Calls.on(x, name, s, p, what) : Calls.on(x, name, s);
    }

    /** All six calls that read told strokes refuse alike; kinds() and nerves() have more behind it. */
    private static void toldRefusals() {
        String[] names = { "judge", "kinds", "nerves", "turned", "hours", "laws" };
        for (int i = 0; i < names.length; i++) {
            sentence("Promise " + (22 + i), i == 0 ? "BAD: SHEET; -11; BAD: it tells more than 24." : "BAD, -11, BAD likewise");
            for (int people = 0; people < 2; people++) {
                BellOfLies x = people == 0 ? new BellOfLies() : town(0, 9, ALL);
                x.sheet(0, 2, 24);
                x.sheet(1, 2, 25);
                x.sheet(3, 0, 40);
                int[] sheets = { LEAST, -1, 4, MOST, 2, 1, 3 };
                int[] want = { BAD, BAD, BAD, BAD, MISSING, BAD, BAD };
                for (int k = 0; k < sheets.length; k++) {
                    due(names[i] + "(" + sheets[k] + ", ..)", told(x, names[i], sheets[k], 0, 0), want[k]);
                    due(names[i] + "(" + sheets[k] + ", ..), ahead of the rest", told(x, names[i], sheets[k], -1, 9), want[k]);
                }
            }
        }
        for (int i = 1; i < 3; i++) {
            sentence("Promise " + (22 + i), i == 1 ? "-5: none such; -7: sort." : "-5: none such; -7: what.");
            BellOfLies x = town(0, 9, ALL);
            x.sheet(0, 2, 24);
            int[] people = { LEAST, -1, 1, 6, MOST };
            int[] whats = { LEAST, -1, 2, MOST };
            for (int p : people) {
                due(names[i] + " of " + p, told(x, names[i], 0, p, 0), NO_PERSON);
                due(names[i] + " of " + p + ", ahead of -7", told(x, names[i], 0, p, 2), NO_PERSON);
            }
            for (int what : whats) {
                due(names[i] + ", " + what, told(x, names[i], 0, 0, what), WRONG);
            }
        }
    }

    private static void kindsThatFit() {
        sentence("Promise 23", "KINDS (sort 0; bits 0 .. 5)");
        BellOfLies x = ruledTown("lies 1;costs 0;strokes 5;", 1, 50, at(1, 2, 4), 0, 9, 0);
        row(x, 0);
        due("all", x.kinds(0, 0, 0), 63);
        due("all, of who gives none", x.kinds(0, 1, 0), 63);
        row(x, 0, 1);
        due("none", x.kinds(0, 0, 0), 0);
        x.clock(1);
        row(x, 0, 5);
        due("PERSON, LOVER", x.kinds(0, 0, 0), 1 + 2);
        row(x, 0, 6);
        due("TRADER, POET", x.kinds(0, 0, 0), 4 + 16);
        row(x, 0, 0);
        due("WAITING at LAST 0, MAD", x.kinds(0, 0, 0), 8 + 32);
        x.put(1, 2, at(1));
        row(x, 0, 5, 10);
        due("with another's 5 WAITING gives twice then", x.kinds(0, 0, 0), 8);
        x.put(1, 3, 1);
        x.clock(12);
        row(x, 0, 0, 5);
        due("at 13 a LOVER LIES", x.kinds(0, 0, 0), 2);
        x.clock(2);
        row(x, 0, 6, 0, 6);
        due("TRADER, POET", x.kinds(0, 0, 0), 20);
        x.put(0, 2, at(2, 3, 4));
        row(x, 0, 6, 0, 6);
        due("POET", x.kinds(0, 0, 0), 16);
        due("KIND stays", x.tells(0, 4), 0);
    }

    private static void moresThatFit() {
        sentence("Promise 23", "MORE (1; bits 0 .. 9)");
        BellOfLies x = ruledTown("lies 1;costs 0;strokes more+1;", 1, 50, ALL, 14, 50, 0);
        for (int more = 0; more < 10; more++) {
            row(x, 0, more + 1);
            due("MORE " + more, x.kinds(0, 0, 1), 1 << more);
        }
        row(x, 0, 11);
        due("none", x.kinds(0, 0, 1), 0);
        row(x, 0);
        due("all", x.kinds(0, 0, 1), 1023);
        x.put(0, 3, 1);
        row(x, 0, 0);
        due("all but 0 of a LOVER at hour 0", x.kinds(0, 1, 1), 1022);
        row(x, 0, 0, 0, 0, 0, 0, 0, 0, 0, 0, 0, 0, 0);
        due("none of a LOVER in 12 hours", x.kinds(0, 1, 1), 0);
        x.clock(9);
        row(x, 0, 10, 0, 0);
        due("9 of a LOVER at hour 9", x.kinds(0, 1, 1), 512);
        x.clock(10);
        row(x, 0, 0, 0);
        due("all of a LOVER at hours 10, 11", x.kinds(0, 1, 1), 1023);
        due("MORE stays", x.tells(1, 5), 4);
    }

    private static void nervesThatFit() {
        sentence("Promise 24", "NERVE (0 .. 99) of one by which, were it so now, that would be -1: how many (what 0), the least (1; -1: none).");
        BellOfLies x = ruledTown("lies 1;costs 0;strokes nerve;", 0, 50, ALL, 0, 0, 0);
        int[] nerves = { 0, 1, 98, 99 };
        for (int nerve : nerves) {
            row(x, 0, nerve, nerve);
            due("just " + nerve, x.nerves(0, 0, 0), 1);
            due("it is " + nerve, x.nerves(0, 0, 1), nerve);
        }
        row(x, 0, 100);
        due("none", x.nerves(0, 0, 0), 0);
        due("none", x.nerves(0, 0, 1), -1);
        row(x, 0);
        due("all", x.nerves(0, 0, 0), 100);
        due("the least", x.nerves(0, 0, 1), 0);
        row(x, 0, 50);
        due("all, of who gives none", x.nerves(0, 1, 0), 100);
        due("NERVE stays", x.tells(0, 0), 50);
        BellOfLies first = town(0, 5, ALL);
        int[] told = { 1, 1, 1 };
        row(first, 0, told);
        due("3 .. 99", first.nerves(0, 0, 0), 97);
        due("3", first.nerves(0, 0, 1), 3);
        row(first, 0, 0);
        due("0 alone", first.nerves(0, 0, 0), 1);
        due("0", first.nerves(0, 0, 1), 0);
    }

    private static void turnedThatFit() {
        sentence("Promise 25", "PEOPLE (bits) such that, were just that one under a VOW now, if not, or not, if so, that would be -1.");
        BellOfLies x = new BellOfLies();
        x.sheet(0, 2, 24);
        due("nobody is there", x.turned(0), 0);
        x = ruledTown(FREE, 0, 0, ALL, 0, 0, ALL, 0, 0, ALL, 0, 0, ALL, 0, 0, ALL, 0, 0, ALL);
        row(x, 0, 5);
        due("all six", x.turned(0), 63);
        x.put(5, 3, 1);
        due("as it is, but turned by none", x.turned(0), 0);
        row(x, 0, 6);
        due("the last one's VOW", x.turned(0), 32);
        row(x, 0, 4, 4);
        due("another VOW", x.turned(0), 31);
        row(x, 0);
        due("nothing told", x.turned(0), 63);
        due("VOWS stay", x.bell(3), 32);
    }

    private static void hoursThatFit() {
        sentence("Promise 26", "HOURS of the day (bits) by which, were it that one now, that would be -1.");
        BellOfLies x = ruledTown("lies 1;costs 0;strokes hour;", 0, 0, ALL);
        x.clock(9999);
        for (int h = 0; h < 24; h++) {
            row(x, 0, h);
            due("hour " + h, x.hours(0), 1 << h);
        }
        row(x, 0, 23, 0);
        due("23, then 0", x.hours(0), 1 << 23);
        row(x, 0, 24);
        due("none", x.hours(0), 0);
        row(x, 0);
        due("all", x.hours(0), ALL);
        due("HOUR stays", x.count(1), 9999);
        x = new BellOfLies();
        row(x, 0, 0);
        due("none strikes at any", x.hours(0), ALL);
    }

    private static void lawsThatFit() {
        sentence("Promise 27", "TEXTS (bits), were they THE LAW, by which that would be -1.");
        BellOfLies x = town(0, 9, ALL);
        for (int t = 0; t < 6; t++) {
            row(x, 0, t == 0 ? 1 : 10 * t);
            due("TEXT " + t, x.laws(0), 1 << t);
            row(x, 0);
            due("all", x.laws(0), (1 << t + 1) - 1);
            row(x, 0, 10 * t + 10);
            due("the next isn't there yet", x.laws(0), 0);
            read(x, "lies 1;costs 0;strokes " + 10 * (t + 1) + ";");
        }
        x.force(5);
        row(x, 0, 1);
        due("TEXT 0, though 5 is THE LAW", x.laws(0), 1);
        due("THE LAW stays", x.count(4), 5);
    }

    private static void filmTruly() {
        sentence("Promise 28", "A SHEET truly becomes STRIKES of this HOUR, the next one, .., n of them (0 .. 24; ints): n.");
        for (int s = 0; s < 4; s++) {
            BellOfLies x = townAfter(1, "lies 1;costs 0;strokes 99;", 30, 0, ALL, 30, 0, ALL, 30, 0, ALL, 30, 0, ALL, 30, 0, ALL);
            int[] hours = { 24, 1, 0 };
            for (int n : hours) {
                x.sheet(s, n % 2, 40);
                due("film(" + s + ", " + n + ")", x.film(s, n), n);
                due("as it strikes: 990 is no byte", x.judge(s), -1);
                due("it is of ints", x.townBy(s, 2, 0, 0), 0);
                due("it has so many", x.copy(s, 0, s, 0, n), n);
                due("and no more", x.copy(s, 0, s, 0, n + 1), OUTSIDE);
            }
            x.sheet(s, -1, 0);
            due("of a missing one", x.film(s, 24), 24);
            due("HOUR stays", x.count(1), 0);
        }
    }

    private static void filmRefused() {
        sentence("Promise 28", "BAD: SHEET; -7: n.");
        BellOfLies x = town(0, 9, ALL);
        int[] sheets = { LEAST, -1, 4, MOST };
        int[] sizes = { LEAST, -1, 25, MOST };
        for (int i = 0; i < 4; i++) {
            due("film(" + sheets[i] + ", 1)", x.film(sheets[i], 1), BAD);
            due("film(" + sheets[i] + ", " + sizes[i] + ")", x.film(sheets[i], sizes[i]), BAD);
            due("film(0, " + sizes[i] + ")", x.film(0, sizes[i]), WRONG);
            due("it is missing yet", x.judge(0), MISSING);
        }
    }

    // ---- crowds

    /** What drawn() answers of one PERSON who always LIES by one stroke: both numbers are alike. */
    private static int drawnOfOne(int seed, int n) {
        boolean vow = false;
        int all = 0;
        for (int turn : turnsOf(seed, n)) {
            vow ^= turn == 0;
            all += vow ? 0 : 1;
        }
        return all;
    }

    private static void drawnHours() {
        sentence("Promise 29", "CROWDS by a SEED of n HOURS (0 .. 48): STRIKES of them, together (what 0), how many lies were TOLD in them (1).");
        BellOfLies x = ruledTown(FREE, 0, 0, ALL);
        int[] seeds = { 0, 1, 2, 3, 4, 5, 6, 7, 8, 99998, 99999 };
        for (int seed : seeds) {
            for (int n = 0; n <= 48; n += n == 0 || n == 47 ? 1 : 23) {
                due("drawn(" + seed + ", " + n + ", 0)", x.drawn(seed, n, 0), drawnOfOne(seed, n));
                due("drawn(" + seed + ", " + n + ", 1)", x.drawn(seed, n, 1), drawnOfOne(seed, n));
            }
        }
        due("VOWS stay", x.bell(3), 0);
        due("HOUR stays", x.count(1), 0);
        x = ruledTown(FREE, 50, 0, 0, 50, 0, 0);
        x.put(0, 3, 1);
        x.put(1, 3, 1);
        due("none LIES till a lot frees one", x.drawn(0, 1, 1), 0);
        due("lies without strokes", x.drawn(0, 48, 0), 0);
        due("of nobody", new BellOfLies().drawn(99999, 48, 1), 0);
    }

    private static void drawnRefused() {
        sentence("Promise 29", "CROWDS by a SEED of n HOURS (0 .. 48) [..] BAD.");
        BellOfLies x = town(0, 9, ALL);
        int[] seeds = { LEAST, -1, 100000, MOST };
        int[] hours = { LEAST, -1, 49, MOST };
        int[] whats = { LEAST, -1, 2, MOST };
        for (int i = 0; i < 4; i++) {
            due("seed " + seeds[i], x.drawn(seeds[i], 1, 0), BAD);
            due("n " + hours[i], x.drawn(0, hours[i], 0), BAD);
            due("what " + whats[i], x.drawn(0, 1, whats[i]), BAD);
        }
    }

    private static void oddsOfSeeds() {
        sentence("Promise 30", "By how many of so many (1 .. 40) seeds, SEED and each 1 more (they may pass 99999), of 12 HOURS, STRIKES of them, together, are least (0 .. 9999) or more");
        BellOfLies x = ruledTown(FREE, 0, 0, ALL);
        int[] firsts = { 0, 99960, 99998, 99999 };
        int[] counts = { 1, 2, 39, 40 };
        for (int seed : firsts) {
            for (int seeds : counts) {
                for (int least = 0; least <= 13; least++) {
                    int so = 0;
                    for (int k = 0; k < seeds; k++) {
                        so += drawnOfOne(seed + k, 12) >= least ? 1 : 0;
                    }
                    int by = BigInteger.valueOf(so).gcd(BigInteger.valueOf(seeds)).intValue();
                    due("odds(" + seed + ", " + seeds + ", " + least + ", 0)", x.odds(seed, seeds, least, 0), so / by);
                    due("odds(" + seed + ", " + seeds + ", " + least + ", 1)", x.odds(seed, seeds, least, 1), seeds / by);
                }
                x = ruledTown(FREE, 0, 0, ALL);
            }
        }
        oddsOfLoudTowns();
        due("least 9999 of few", x.odds(0, 40, 9999, 0), 0);
        due("by 1", x.odds(0, 40, 9999, 1), 1);
        due("VOWS stay", x.bell(3), 0);
    }

    /** Here 12 HOURS bring up to 13068 strokes. */
    private static void oddsOfLoudTowns() {
        int so = 0;
        for (int seed = 0; seed < 90; seed++) {
            BellOfLies x = townAfter(1, "lies 1;costs 0;strokes 99;", 30, 0, ALL, 30, 0, ALL, 30, 0, ALL, 30, 0, ALL, 30, 0, ALL);
            x.put(5, 3, 0);
            int strokes = x.drawn(seed, 12, 0);
            so += strokes >= 9999 ? 1 : 0;
            due("seed " + seed + " of " + strokes, x.odds(seed, 1, 9999, 0), strokes >= 9999 ? 1 : 0);
            int least = Math.min(9999, strokes);
            due("seed " + seed + ", least " + least, x.odds(seed, 1, least, 0), 1);
            due("seed " + seed + ", least " + (least + 1), x.odds(seed, 1, least + 1, 0), strokes >= 9999 ? NO : 0);
        }
        due("some are so", so > 0 && so < 90 ? 1 : 0, 1);
    }

    private static void oddsRefused() {
        sentence("Promise 30", "part 0 above, 1 below the line, in lowest terms. NO: none such.");
        BellOfLies x = town(0, 9, ALL);
        int[] seeds = { LEAST, -1, 100000, MOST };
        int[] counts = { LEAST, 0, 41, MOST };
        int[] leasts = { LEAST, -1, 10000, MOST };
        int[] parts = { LEAST, -1, 2, MOST };
        for (int i = 0; i < 4; i++) {
            due("seed " + seeds[i], x.odds(seeds[i], 1, 0, 0), NO);
            due("so many: " + counts[i], x.odds(0, counts[i], 0, 0), NO);
            due("least " + leasts[i], x.odds(0, 1, leasts[i], 0), NO);
            due("part " + parts[i], x.odds(0, 1, 0, parts[i]), NO);
        }
        due("least 0", x.odds(0, 1, 0, 0), 1);
        due("by -1 seeds", x.odds(0, -1, 0, 0), NO);
    }
}

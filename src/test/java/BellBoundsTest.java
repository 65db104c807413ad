/** Promises 1 to 15, the bell, the law, people, hours: each sentence that names a bound, at it and beyond it. */
public final class BellBoundsTest extends Answers {
    public static void main(String[] args) {
        nobodyAtFirst();
        countOfWhat();
        countEmptyAndFull();
        clockBecomes();
        feedOfBytes();
        feedOneByOne();
        feedWithoutRoom();
        textEmptiesTheTape();
        textsPlaces();
        textFull();
        forceOfTexts();
        asksOfParts();
        personOfNumbers();
        personsRefusals();
        putsBounds();
        putsRefusals();
        tellsOfWhat();
        tellsRefusals();
        bellOfWhat();
        strikeTruly();
        strikeAtTheLastHour();
        runOfHours();
        runOfPeople();
        runRefused();
        whenBehindHours();
        whenNever();
        whenRefused();
        dialAlone();
        dialRows();
        dialNoneAndMost();
        dialRefused();
        finish();
    }

    private static void nobodyAtFirst() {
        sentence("Promise 1", "Nobody.");
        BellOfLies x = new BellOfLies();
        int[] counts = { 0, 0, 0, 1, 0, 0, 0 };
        for (int what = 0; what < 7; what++) {
            due("count(" + what + ")", x.count(what), counts[what]);
        }
        for (int what = 0; what < 4; what++) {
            due("bell(" + what + ")", x.bell(what), 0);
        }
        due("tells(0, 0)", x.tells(0, 0), NO_PERSON);
        due("put(0, 0, 0)", x.put(0, 0, 0), NO_PERSON);
        due("asks(0, 0)", x.asks(0, 0), -1000);
        due("run(48, 0)", x.run(48, 0), 0);
        due("run(0, 10)", x.run(0, 10), BAD);
        due("run(0, 20)", x.run(0, 20), BAD);
        due("lesson(0, 0)", x.lesson(0, 0), NO_PERSON);
        due("taken(0, 0)", x.taken(0, 0), MISSING);
        due("taken(6, 6)", x.taken(6, 6), MISSING);
        due("drawn(0, 48, 1)", x.drawn(0, 48, 1), 0);
        due("strike()", x.strike(), 0);
        due("image()", x.image(), 0);
        due("another object is not this one", new BellOfLies().count(1), 0);
    }

    private static void countOfWhat() {
        sentence("Promise 2", "0 PEOPLE, 1 HOUR, 2 TOLL, 3 TEXTS, 4 THE LAW, 5 bytes of THE TAPE, 6 LAST. BAD.");
        BellOfLies x = town(29, 9, ALL, 29, 9, ALL);
        due("strike", x.strike(), 20);
        x.clock(77);
        read(x, FREE);
        read(x, FREE);
        x.force(1);
        x.feed(4, 0, 0, 0, 0, 0);
        int[] want = { 2, 77, 20, 3, 1, 4, 20 };
        for (int what = 0; what < 7; what++) {
            due("count(" + what + ")", x.count(what), want[what]);
        }
        due("count(-1)", x.count(-1), BAD);
        due("count(7)", x.count(7), BAD);
        due("count(least)", x.count(LEAST), BAD);
        due("count(most)", x.count(MOST), BAD);
    }

    private static void countEmptyAndFull() {
        sentence("Promise 2", "0 PEOPLE, 1 HOUR, 2 TOLL, 3 TEXTS, 4 THE LAW, 5 bytes of THE TAPE, 6 LAST.");
        BellOfLies x = new BellOfLies();
        due("no byte", x.count(5), 0);
        due("no LAST", x.count(6), 0);
        for (int p = 0; p < 6; p++) {
            x.person(29, 99, ALL);
        }
        for (int t = 1; t < 6; t++) {
            read(x, "lies 1;costs 0;strokes 99;");
        }
        x.force(5);
        feedAll(x, "(".repeat(160));
        x.clock(9998);
        due("strike", x.strike(), 648);
        int[] full = { 6, 9999, 648, 6, 5, 160, 99 };
        for (int what = 0; what < 7; what++) {
            due("count(" + what + ")", x.count(what), full[what]);
        }
    }

    private static void clockBecomes() {
        sentence("Promise 3", "HOUR becomes v: what it was. BAD.");
        BellOfLies x = new BellOfLies();
        int[] hours = { 0, 1, 23, 24, 9998, 9999, 0, 0, 9999, 9999 };
        int was = 0;
        for (int v : hours) {
            due("clock(" + v + ")", x.clock(v), was);
            due("HOUR", x.count(1), v);
            was = v;
        }
        int[] bad = { -1, 10000, LEAST, MOST };
        for (int v : bad) {
            due("clock(" + v + ")", x.clock(v), BAD);
            due("HOUR stays", x.count(1), 9999);
        }
    }

    private static void feedOfBytes() {
        sentence("Promise 4", "The first n (1 .. 5) of five bytes (0 .. 255 each) come behind THE TAPE's, one by one: how many it has. BAD: n, any of the five");
        BellOfLies x = new BellOfLies();
        int[] badN = { LEAST, -1, 0, 6, MOST };
        for (int n : badN) {
            due("feed(" + n + ", ..)", x.feed(n, 32, 32, 32, 32, 32), BAD);
        }
        int[] badByte = { LEAST, -1, 256, MOST };
        for (int n = 1; n <= 5; n++) {
            for (int place = 0; place < 5; place++) {
                for (int v : badByte) {
                    int[] b = { 32, 32, 32, 32, 32 };
                    b[place] = v;
                    due("byte " + place + " of " + n + " is " + v, x.feed(n, b[0], b[1], b[2], b[3], b[4]), BAD);
                }
            }
        }
        due("none came", x.count(5), 0);
        int size = 0;
        for (int n = 1; n <= 5; n++) {
            size += n;
            due("bytes 0, n " + n, x.feed(n, 0, 0, 0, 0, 0), size);
            size += n;
            due("bytes 255, n " + n, x.feed(n, 255, 255, 255, 255, 255), size);
        }
        due("how many it has", x.count(5), 30);
    }

    private static void feedOneByOne() {
        sentence("Promise 4", "The first n (1 .. 5) of five bytes (0 .. 255 each) come behind THE TAPE's, one by one: how many it has.");
        BellOfLies x = town(0, 0, 0);
        due("feed(5)", x.feed(5, 'l', 'i', 'e', 's', ' '), 5);
        due("feed(4)", x.feed(4, '7', ';', 'c', 'o', '!'), 9);
        due("feed(3)", x.feed(3, 's', 't', 's', '!', '!'), 12);
        due("feed(2)", x.feed(2, '8', ';', '!', '!', '!'), 14);
        due("feed(1)", x.feed(1, 's', '!', '!', '!', '!'), 15);
        due("feed(5)", x.feed(5, 't', 'r', 'o', 'k', 'e'), 20);
        due("feed(3)", x.feed(3, 's', '9', ';', '!', '!'), 23);
        due("text", x.text(), 1);
        x.force(1);
        due("lies", x.asks(0, 0), 7);
        due("costs", x.asks(1, 0), 8);
        due("strokes", x.asks(2, 0), 9);
    }

    private static void feedWithoutRoom() {
        sentence("Promise 4", "FULL: they have not all room (none comes).");
        for (int n = 1; n <= 5; n++) {
            BellOfLies x = new BellOfLies();
            feedAll(x, " ".repeat(161 - n));
            due("n " + n + " behind " + (161 - n), x.feed(n, 40, 40, 40, 40, 40), FULL);
            due("none came", x.count(5), 161 - n);
            due("BAD is told ahead", x.feed(n, 40, 40, 40, 40, 256), BAD);
            due("BAD is told ahead", x.feed(6, 40, 40, 40, 40, 40), BAD);
            if (n > 1) {
                due("one less has room", x.feed(n - 1, 32, 32, 32, 32, 32), 160);
            }
            due("full", x.feed(1, 40, 40, 40, 40, 40), FULL);
            due("all of it are blanks", x.text(), -260);
            due("then there is room", x.feed(5, 32, 32, 32, 32, 32), 5);
        }
    }

    private static void textEmptiesTheTape() {
        sentence("Promise 5", "THE TAPE, which is empty then (by a FAULT, too), is a TEXT: its number");
        BellOfLies x = new BellOfLies();
        due("of an empty one", x.text(), -100);
        for (int t = 1; t < 6; t++) {
            due("a FAULT", read(x, "lies 1;costs"), -112);
            due("empty", x.count(5), 0);
            due("TEXTS", x.count(3), t);
            due("a TEXT", read(x, FREE), t);
            due("empty", x.count(5), 0);
            due("TEXTS", x.count(3), t + 1);
        }
        due("THE LAW", x.count(4), 0);
    }

    private static void textsPlaces() {
        sentence("Promise 5", "-100 less the place of its FAULT.");
        for (int place = 0; place < 160; place += place < 6 || place > 152 ? 1 : 7) {
            BellOfLies x = new BellOfLies();
            due("a FAULT at " + place, read(x, " ".repeat(place) + "!"), -100 - place);
            due("a TAPE of " + (place + 1) + " blanks", read(x, " ".repeat(place + 1)), -101 - place);
        }
    }

    private static void textFull() {
        sentence("Promise 5", "FULL (ahead of the FAULT; then THE TAPE stays).");
        BellOfLies x = new BellOfLies();
        for (int t = 1; t < 6; t++) {
            due("text", read(x, FREE), t);
        }
        due("an empty TAPE", x.text(), FULL);
        due("a FAULT", read(x, "!"), FULL);
        due("it stays", x.count(5), 1);
        due("again", x.text(), FULL);
        due("a TEXT", read(x, FREE), FULL);
        due("it stays", x.count(5), 1 + FREE.length());
        due("TEXTS", x.count(3), 6);
        due("no sixth behind TEXT 0", x.force(6), BAD);
    }

    private static void forceOfTexts() {
        sentence("Promise 6", "A TEXT is THE LAW: which was. BAD.");
        BellOfLies x = town(0, 9, ALL);
        int[] bad = { LEAST, -1, 1, 5, 6, MOST };
        for (int t : bad) {
            due("force(" + t + ") of one", x.force(t), BAD);
        }
        due("force(0)", x.force(0), 0);
        for (int t = 1; t < 6; t++) {
            due("force ahead of its text", x.force(t), BAD);
            due("text", read(x, "lies 1;costs 0;strokes " + 10 * t + ";"), t);
            due("a FAULT is no TEXT", read(x, "lies"), t == 5 ? FULL : -104);
            due("force(" + t + ")", x.force(t), t - 1);
            due("THE LAW", x.count(4), t);
            due("its strokes", x.bell(1), 10 * t);
        }
        due("force(5), as it was", x.force(5), 5);
        due("force(6)", x.force(6), BAD);
        due("force(-1)", x.force(-1), BAD);
        due("THE LAW stays", x.count(4), 5);
        due("force(0)", x.force(0), 5);
        due("its strokes", x.bell(1), 1);
    }

    private static void asksOfParts() {
        sentence("Promise 7", "What part 0 lies, 1 costs, 2 strokes says of one of PEOPLE. -1000: none such.");
        BellOfLies x = new BellOfLies();
        due("of nobody", x.asks(0, 0), -1000);
        for (int p = 0; p < 6; p++) {
            due("of one who hasn't come", x.asks(0, p), -1000);
            x.person(10 * p + p, 10 * p, 0);
            due("lies", x.asks(0, p), 10 * p);
            due("costs", x.asks(1, p), 1);
            due("strokes", x.asks(2, p), 1);
        }
        x.put(5, 3, 1);
        due("under a VOW, too", x.asks(0, 5), 50);
        int[][] none = { { -1, 0 }, { 3, 0 }, { LEAST, 0 }, { MOST, 0 }, { 0, -1 }, { 0, 6 }, { 2, LEAST }, { 2, MOST }, { 3, 6 } };
        for (int[] n : none) {
            due("asks(" + n[0] + ", " + n[1] + ")", x.asks(n[0], n[1]), -1000);
        }
    }

    private static void personOfNumbers() {
        sentence("Promise 8", "One of PEOPLE (kindMore: 10 times KIND, and MORE; nerves: NERVE; hours: OWN): the number.");
        int[] kindMores = { 0, 9, 10, 49, 50, 59 };
        int[] nerves = { 0, 99, 1, 98, 0, 99 };
        int[] hours = { ALL, 0, 1, 1 << 23, ALL - 1, ALL };
        BellOfLies x = new BellOfLies();
        for (int p = 0; p < 6; p++) {
            due("person", x.person(kindMores[p], nerves[p], hours[p]), p);
        }
        for (int p = 0; p < 6; p++) {
            int[] want = { nerves[p], 0, hours[p], 0, kindMores[p] / 10, kindMores[p] % 10 };
            for (int what = 0; what < 6; what++) {
                due("tells(" + p + ", " + what + ")", x.tells(p, what), want[what]);
            }
        }
    }

    private static void personsRefusals() {
        sentence("Promise 8", "BAD; FULL.");
        int[][] bad = { { -1, 0, 0 }, { 60, 0, 0 }, { LEAST, 0, 0 }, { MOST, 0, 0 }, { 0, -1, 0 }, { 0, 100, 0 }, { 0, LEAST, 0 }, { 0, MOST, 0 },
            { 0, 0, -1 }, { 0, 0, 16777216 }, { 0, 0, LEAST }, { 0, 0, MOST } };
        BellOfLies x = new BellOfLies();
        for (int came = 0; came <= 6; came += 6) {
            for (int[] b : bad) {
                due("BAD, of " + came + " too", x.person(b[0], b[1], b[2]), BAD);
            }
            due("PEOPLE", x.count(0), came);
            for (int p = 0; p < 6 && came == 0; p++) {
                due("person", x.person(59, 99, ALL), p);
            }
        }
        due("a seventh", x.person(0, 0, 0), FULL);
        due("a seventh", x.person(59, 99, ALL), FULL);
        due("PEOPLE", x.count(0), 6);
    }

    private static void putsBounds() {
        sentence("Promise 9", "NERVE (what 0), TOLD (1), OWN (2; bits), VOW (3; 1, 0) becomes v: what it was.");
        int[] most = { 99, 9999, ALL, 1 };
        for (int p = 0; p < 6; p++) {
            BellOfLies x = town(0, 1, 2, 0, 1, 2, 0, 1, 2, 0, 1, 2, 0, 1, 2, 0, 1, 2);
            int[] was = { 1, 0, 2, 0 };
            for (int what = 0; what < 4; what++) {
                due("most", x.put(p, what, most[what]), was[what]);
                due("it is", x.tells(p, what), most[what]);
                due("most again", x.put(p, what, most[what]), most[what]);
                due("1", x.put(p, what, 1), most[what]);
                due("0", x.put(p, what, 0), 1);
                due("0 again", x.put(p, what, 0), 0);
                due("it is", x.tells(p, what), 0);
                due("another's is as it was", x.tells(5 - p, what), was[what]);
            }
        }
    }

    private static void putsRefusals() {
        sentence("Promise 9", "-5: none such; -7: what, v.");
        int[] most = { 99, 9999, ALL, 1 };
        BellOfLies x = town(0, 30, 5, 0, 30, 5);
        x.put(1, 3, 1);
        for (int what = 0; what < 4; what++) {
            int was = x.tells(1, what);
            int[] bad = { -1, most[what] + 1, LEAST, MOST };
            for (int v : bad) {
                due("put(1, " + what + ", " + v + ")", x.put(1, what, v), WRONG);
                due("it stays", x.tells(1, what), was);
            }
        }
        int[] whats = { -1, 4, LEAST, MOST };
        for (int what : whats) {
            due("put(0, " + what + ", 0)", x.put(0, what, 0), WRONG);
            due("-5 is told ahead", x.put(2, what, -1), NO_PERSON);
        }
        int[] people = { -1, 2, 6, LEAST, MOST };
        for (int p : people) {
            due("put(" + p + ", 0, 0)", x.put(p, 0, 0), NO_PERSON);
            due("-5 is told ahead", x.put(p, 0, 100), NO_PERSON);
        }
    }

    private static void tellsOfWhat() {
        sentence("Promise 10", "What 0 .. 3 as of put(), 4 KIND, 5 MORE, 6 whether one LIES now (1, 0), 7 how much NERVE it COSTS (1000 more), 8 how many STROKES it is (7, 8: LYING or not).");
        BellOfLies x = ruledTown("lies 1;costs -99;strokes 99;", 29, 77, 6, 0, 1, 0);
        x.put(0, 1, 9999);
        x.clock(1);
        int[] want = { 77, 9999, 6, 0, 2, 9, 1, 901, 108 };
        for (int what = 0; what < 9; what++) {
            due("tells(0, " + what + ")", x.tells(0, what), want[what]);
        }
        x.put(0, 3, 1);
        int[] vowed = { 77, 9999, 6, 1, 2, 9, 0, 901, 108 };
        for (int what = 0; what < 9; what++) {
            due("under a VOW, tells(0, " + what + ")", x.tells(0, what), vowed[what]);
        }
        int[] other = { 1, 0, 0, 0, 0, 0, 0, 901, 99 };
        for (int what = 0; what < 9; what++) {
            due("not LYING, tells(1, " + what + ")", x.tells(1, what), other[what]);
        }
        rule(x, "lies 0;costs 99;strokes 0;");
        due("COSTS 99", x.tells(1, 7), 1099);
        due("STROKES 0", x.tells(1, 8), 0);
    }

    private static void tellsRefusals() {
        sentence("Promise 10", "-5: none such; -7: what.");
        BellOfLies x = town(0, 0, 0, 0, 0, 0);
        int[] whats = { -1, 9, 10, LEAST, MOST };
        int[] people = { -1, 2, 6, LEAST, MOST };
        for (int what : whats) {
            due("tells(1, " + what + ")", x.tells(1, what), WRONG);
        }
        for (int p : people) {
            due("tells(" + p + ", 8)", x.tells(p, 8), NO_PERSON);
            due("-5 is told ahead", x.tells(p, 9), NO_PERSON);
        }
    }

    private static void bellOfWhat() {
        sentence("Promise 11", "Who LIES now (what 0; bits), STRIKES now (1), TOLL (2), who is under a VOW (3; bits). BAD.");
        BellOfLies x = town(29, 1, ALL, 29, 1, ALL, 29, 1, ALL, 29, 1, ALL, 29, 1, ALL, 29, 1, ALL);
        due("all six LIE", x.bell(0), 63);
        due("STRIKES", x.bell(1), 60);
        due("TOLL", x.bell(2), 0);
        due("no VOWS", x.bell(3), 0);
        for (int p = 0; p < 6; p++) {
            x.put(p, 3, 1);
            due("without " + p, x.bell(0), 63 - (1 << p));
            due("STRIKES", x.bell(1), 50);
            due("the VOW of " + p, x.bell(3), 1 << p);
            x.put(p, 3, 0);
        }
        x.strike();
        due("nobody has NERVE", x.bell(0), 0);
        due("STRIKES", x.bell(1), 0);
        due("TOLL", x.bell(2), 60);
        for (int p = 0; p < 6; p++) {
            x.put(p, 3, 1);
        }
        due("all are under a VOW", x.bell(3), 63);
        int[] bad = { -1, 4, LEAST, MOST };
        for (int what : bad) {
            due("bell(" + what + ")", x.bell(what), BAD);
        }
    }

    private static void strikeTruly() {
        sentence("Promise 12", "An HOUR, truly: STRIKES of it.");
        BellOfLies x = town(0, 2, ALL, 21, 1, at(1), 50, 0, 0);
        int[] strikes = { 1, 3, 0 };
        int[][] nerve = { { 1, 1, 0 }, { 0, 0, 0 }, { 0, 0, 0 } };
        int[][] told = { { 1, 0, 1 }, { 2, 1, 2 }, { 2, 1, 3 } };
        int toll = 0;
        for (int h = 0; h < 3; h++) {
            toll += strikes[h];
            due("strike", x.strike(), strikes[h]);
            due("LAST", x.count(6), strikes[h]);
            due("TOLL", x.count(2), toll);
            due("HOUR", x.count(1), h + 1);
            for (int p = 0; p < 3; p++) {
                due("NERVE of " + p, x.tells(p, 0), nerve[h][p]);
                due("TOLD of " + p, x.tells(p, 1), told[h][p]);
            }
        }
    }

    private static void strikeAtTheLastHour() {
        sentence("Promise 12", "STATE: HOUR is 9999.");
        BellOfLies x = town(0, 9, ALL);
        x.clock(9998);
        due("at 9998", x.strike(), 1);
        due("HOUR", x.count(1), 9999);
        due("at 9999", x.strike(), STATE);
        due("again", x.strike(), STATE);
        due("HOUR stays", x.count(1), 9999);
        due("TOLL stays", x.count(2), 1);
        due("NERVE stays", x.tells(0, 0), 8);
        due("TOLD stays", x.tells(0, 1), 1);
        x.clock(0);
        due("at 0", x.strike(), 1);
        BellOfLies empty = new BellOfLies();
        empty.clock(9999);
        due("of nobody", empty.strike(), STATE);
    }

    private static void runOfHours() {
        sentence("Promise 13", "n HOURS (0 .. 48), in thought: STRIKES of them, together (what 0), STRIKES then (1), who LIES then (2; bits)");
        BellOfLies x = town(0, 48, ALL, 20, 1, ALL);
        int[] hours = { 0, 1, 2, 47, 48 };
        int[] together = { 0, 2, 3, 48, 49 };
        int[] then = { 2, 1, 1, 1, 0 };
        int[] who = { 3, 1, 1, 1, 0 };
        for (int i = 0; i < hours.length; i++) {
            due("run(" + hours[i] + ", 0)", x.run(hours[i], 0), together[i]);
            due("run(" + hours[i] + ", 1)", x.run(hours[i], 1), then[i]);
            due("run(" + hours[i] + ", 2)", x.run(hours[i], 2), who[i]);
        }
        due("HOUR stays", x.count(1), 0);
        due("NERVE stays", x.tells(0, 0), 48);
        x.clock(9999);
        due("behind the last HOUR", x.run(48, 0), 49);
    }

    private static void runOfPeople() {
        sentence("Promise 13", "NERVE of who is numbered what less 10 (10 ..), TOLD of who is numbered what less 20 (20 ..).");
        BellOfLies x = new BellOfLies();
        for (int p = 0; p <= 6; p++) {
            for (int q = 0; q <= 6; q++) {
                due("NERVE of " + q + " of " + p, x.run(3, 10 + q), q < p ? 10 * q + 2 : BAD);
                due("TOLD of " + q + " of " + p, x.run(3, 20 + q), q < p ? q + 3 : BAD);
            }
            if (p < 6) {
                x.person(0, 10 * p + 5, ALL);
                x.put(p, 1, p);
            }
        }
        due("run(0, 15)", x.run(0, 15), 55);
        due("run(0, 25)", x.run(0, 25), 5);
        due("run(48, 15)", x.run(48, 15), 7);
        due("run(48, 25)", x.run(48, 25), 53);
    }

    private static void runRefused() {
        sentence("Promise 13", "n HOURS (0 .. 48) [..] BAD.");
        BellOfLies x = town(0, 9, ALL, 0, 9, ALL, 0, 9, ALL, 0, 9, ALL, 0, 9, ALL, 0, 9, ALL);
        int[] hours = { -1, 49, LEAST, MOST };
        int[] whats = { 0, 1, 2, 10, 25 };
        for (int n : hours) {
            for (int what : whats) {
                due("run(" + n + ", " + what + ")", x.run(n, what), BAD);
            }
        }
        int[] bad = { -1, 3, 4, 9, 16, 17, 18, 19, 26, 30, LEAST, MOST };
        for (int what : bad) {
            due("run(0, " + what + ")", x.run(0, what), BAD);
        }
    }

    private static void whenBehindHours() {
        sentence("Promise 14", "Behind how many HOURS (0 .. 60) STRIKES are just so many (0 .. 999) for the first time");
        BellOfLies x = ruledTown("lies 1;costs 1;strokes nerve;", 0, 61, ALL);
        due("now", x.when(61), 0);
        due("behind 1", x.when(60), 1);
        due("behind 59", x.when(2), 59);
        due("behind 60", x.when(1), 60);
        due("behind 61", x.when(0), -1);
        due("never", x.when(62), -1);
        x = new BellOfLies();
        due("0 of nobody", x.when(0), 0);
        due("1 of nobody", x.when(1), -1);
        x = ruledTown("lies hour<2;costs 0;strokes 3;", 0, 0, ALL);
        due("for the first time", x.when(0), 2);
        x.clock(1);
        due("for the first time", x.when(3), 0);
        due("for the first time", x.when(0), 1);
        due("HOUR stays", x.count(1), 1);
    }

    private static void whenNever() {
        sentence("Promise 14", "-1: not by then.");
        BellOfLies x = ruledTown("lies 1;costs 1;strokes 61-nerve;", 0, 62, ALL);
        due("0 now", x.when(0), 0);
        due("59 behind 60", x.when(59), 60);
        due("60 behind 61", x.when(60), -1);
        due("999 never", x.when(999), -1);
        x.strike();
        due("60 behind 60", x.when(60), 60);
    }

    /** At LAST above 0 five WAITING give 198 each; the PERSON gives 8 and the HOUR. */
    private static void whenRefused() {
        sentence("Promise 14", "just so many (0 .. 999) [..] BAD.");
        BellOfLies x = ruledTown("lies 1;costs 0;strokes 99-(91-hour)*(more=9);",
            9, 0, ALL, 30, 0, ALL, 30, 0, ALL, 30, 0, ALL, 30, 0, ALL, 30, 0, ALL);
        due("at hour 1 it is 999", x.when(999), 1);
        due("at hour 2 it is 1000, but that is BAD", x.when(1000), BAD);
        due("1000", x.run(2, 1), 1000);
        due("-1", x.when(-1), BAD);
        due("least", x.when(LEAST), BAD);
        due("most", x.when(MOST), BAD);
    }

    // ---- THE DAY

    private static void dials(String town, BellOfLies x, int... want) {
        for (int what = 0; what < 5; what++) {
            due("dial(" + what + ") of " + town, x.dial(what), want[what]);
        }
    }

    private static BellOfLies striking(String strokes) {
        return ruledTown("lies 1;costs 0;strokes " + strokes + ";", 0, 0, ALL);
    }

    private static void dialAlone() {
        sentence("Promise 15", "Of THE DAY: how many of its HOURS have as many STRIKES as no other one of it (what 0)");
        dials("nobody", new BellOfLies(), 0, 24, 24, 0, 0);
        dials("all different", striking("hour"), 24, 1, 1, 23, 23);
        dials("one alone at the first", striking("hour=0"), 1, 23, 23, 1, 0);
        dials("one alone at the last", striking("hour=23"), 1, 23, 23, 1, 23);
        dials("two of each", striking("hour-12*(11<hour)"), 0, 1, 2, 11, 11);
        dials("the first and the last alike", striking("hour*(hour<23)"), 22, 1, 2, 22, 22);
        dials("two alone", striking("(hour=5)+2*(hour=6)"), 2, 17, 22, 2, 6);
        dials("two halves", striking("1+(hour<12)"), 0, 12, 0, 2, 0);
    }

    private static void dialRows() {
        sentence("Promise 15", "the longest row of HOURS, one behind the other, of as many each (1)");
        dials("at the begin", striking("hour*(3<hour)"), 20, 4, 4, 23, 23);
        dials("at the end", striking("hour*(hour<20)"), 19, 4, 5, 19, 19);
        dials("not from the last to the first", striking("hour*(2<hour)*(hour<21)"), 18, 3, 6, 20, 20);
        dials("by turns", striking("hour-hour*(hour=2)-hour*(hour=4)-hour*(hour=6)"), 20, 1, 4, 23, 23);
        dials("two rows, the later is longer", striking("1+hour*(9<hour)*(hour<12)"), 2, 12, 0, 12, 11);
        BellOfLies x = striking("hour*(2<hour)*(hour<21)");
        x.clock(21);
        dials("from 21 on", x, 18, 6, 6, 20, 23);
        x.clock(9999);
        dials("from 15 on", x, 18, 6, 6, 20, 5);
    }

    private static void dialNoneAndMost() {
        sentence("Promise 15", "how many have none (2), the most that any has (3), the first HOUR, from 0 on, that has so many (4).");
        dials("the most twice", striking("9*(hour=4)+9*(hour=9)"), 0, 14, 22, 9, 4);
        dials("always 99", striking("99"), 0, 24, 0, 99, 0);
        dials("a POET's", ruledTown("lies 0;costs 0;strokes 1;", 42, 0, ALL), 0, 2, 8, 3, 1);
        BellOfLies x = ruledTown("lies 1;costs 0;strokes 99;", 9, 0, ALL, 30, 0, ALL, 30, 0, ALL, 30, 0, ALL, 30, 0, ALL, 30, 0, ALL);
        dials("1089", x, 1, 23, 0, 1089, 1);
        x = striking("hour");
        x.clock(30);
        dials("HOURS from 0 on, though it is 6", x, 24, 1, 1, 23, 17);
    }

    private static void dialRefused() {
        sentence("Promise 15", "(what 0) [..] (4). BAD.");
        int[] bad = { -1, 5, LEAST, MOST };
        for (int what : bad) {
            due("dial(" + what + ") of nobody", new BellOfLies().dial(what), BAD);
            due("dial(" + what + ")", striking("hour").dial(what), BAD);
        }
    }
}

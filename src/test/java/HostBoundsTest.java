/** Promises 31 to 37, images and the host's sheets: each sentence that names a bound, at it and beyond it. */
public final class HostBoundsTest extends Answers {
    public static void main(String[] args) {
        imageOfHowMany();
        backToTheImage();
        backWithoutImage();
        sheetBecomes();
        sheetMissing();
        sheetRefused();
        cellOfBytes();
        cellOfShorts();
        cellOfInts();
        cellRefused();
        copyOfNumbers();
        copyAsTheyWere();
        copyRefused();
        copyOutside();
        townByTriples();
        townByLeavesOut();
        townByRefused();
        townByOutside();
        takenOfPeople();
        takenOfHours();
        takenRefused();
        finish();
    }

    // ---- images

    private static void imageOfHowMany() {
        sentence("Promise 31", "AN IMAGE is kept: how many of PEOPLE.");
        BellOfLies x = new BellOfLies();
        for (int people = 0; people <= 6; people++) {
            due("image of " + people, x.image(), people);
            due("again", x.image(), people);
            due("back", x.back(), people);
            x.person(0, 0, 0);
            due("the one since is none", x.back(), people);
            x.person(0, 0, 0);
        }
        due("image of six", x.image(), 6);
        x.clock(5);
        due("back", x.back(), 6);
        due("HOUR as in THE IMAGE", x.count(1), 0);
    }

    private static void backToTheImage() {
        sentence("Promise 32", "All that it keeps is as in THE IMAGE, PEOPLE that came since are none: how many there are.");
        BellOfLies x = ruledTown(FREE, 12, 34, 56);
        x.put(0, 3, 1);
        x.put(0, 1, 9999);
        x.clock(9999);
        due("image", x.image(), 1);
        for (int times = 0; times < 3; times++) {
            x.force(0);
            x.clock(times);
            x.put(0, 0, 99);
            x.put(0, 1, 0);
            x.put(0, 2, ALL);
            x.put(0, 3, 0);
            for (int p = 1; p < 6; p++) {
                due("person", x.person(59, 99, ALL), p);
                x.put(p, 3, 1);
                x.put(p, 1, 7);
            }
            x.strike();
            due("back", x.back(), 1);
            due("PEOPLE", x.count(0), 1);
            due("HOUR", x.count(1), 9999);
            due("TOLL", x.count(2), 0);
            due("THE LAW", x.count(4), 1);
            due("LAST", x.count(6), 0);
            due("VOWS", x.bell(3), 1);
            int[] want = { 34, 9999, 56, 1, 1, 2 };
            for (int what = 0; what < 6; what++) {
                due("tells(0, " + what + ")", x.tells(0, what), want[what]);
            }
            for (int p = 1; p < 6; p++) {
                due("who came since is none", x.tells(p, 0), NO_PERSON);
                due("who came since is none", x.taken(p, 0), MISSING);
                due("nor are the OWN HOURS", x.taken(6 + p, 6), MISSING);
            }
            due("the next one has no VOW", x.person(0, 0, ALL) + 10 * x.tells(1, 3) + 100 * x.tells(1, 1), 1);
            x.back();
        }
        BellOfLies full = town(0, 1, 0, 0, 2, 0, 0, 3, 0, 0, 4, 0, 0, 5, 0, 0, 6, 0);
        due("image of six", full.image(), 6);
        due("back to six", full.back(), 6);
        due("a seventh", full.person(0, 0, 0), FULL);
        BellOfLies empty = new BellOfLies();
        due("image of nobody", empty.image(), 0);
        empty.person(50, 0, 0);
        empty.put(0, 3, 1);
        due("back to nobody", empty.back(), 0);
        due("no VOWS", empty.bell(3), 0);
        due("nobody LIES", empty.bell(0), 0);
    }

    private static void backWithoutImage() {
        sentence("Promise 32", "STATE: there is none.");
        BellOfLies x = town(0, 9, ALL);
        due("back", x.back(), STATE);
        x.strike();
        due("back", x.back(), STATE);
        due("HOUR stays", x.count(1), 1);
        due("PEOPLE stay", x.count(0), 1);
        due("image", x.image(), 1);
        due("back", x.back(), 1);
        due("back again", x.back(), 1);
        due("another object has none", new BellOfLies().back(), STATE);
    }

    // ---- sheets

    private static void sheetBecomes() {
        sentence("Promise 33", "A SHEET becomes a row of n of a sort, all 0");
        for (int s = 0; s < 4; s++) {
            BellOfLies x = new BellOfLies();
            for (int sort = 0; sort < 3; sort++) {
                int[] sizes = { 24, 1, 0, 40, 39, 24 };
                for (int n : sizes) {
                    due("sheet(" + s + ", " + sort + ", " + n + ")", x.sheet(s, sort, n), 1);
                    due("it has so many", x.copy(s, 0, s, 0, n), n);
                    due("and no more", x.copy(s, 0, s, 0, n + 1), OUTSIDE);
                    due("it is of the sort", x.townBy(s, sort, 0, 0), 0);
                    due("all 0", x.judge(s), n > 24 ? BAD : -1);
                    for (int i = 0; i < n; i++) {
                        x.cell(s, i, 9);
                    }
                }
                due("all 9", x.judge(s), 0);
            }
        }
        BellOfLies x = new BellOfLies();
        x.sheet(0, 2, 40);
        for (int i = 0; i < 40; i++) {
            x.cell(0, i, 9);
        }
        x.sheet(0, 2, 2);
        x.sheet(0, 2, 40);
        x.sheet(1, 2, 24);
        due("copy of the last 24", x.copy(0, 16, 1, 0, 24), 24);
        due("all 0, those that were cut off, too", x.judge(1), -1);
        due("copy of the first 24", x.copy(0, 0, 1, 0, 24), 24);
        due("all 0", x.judge(1), -1);
    }

    private static void sheetMissing() {
        sentence("Promise 33", "or missing (sort -1: n does not matter): 1.");
        int[] sizes = { 0, 1, 40, 41, -1, LEAST, MOST };
        for (int s = 0; s < 4; s++) {
            BellOfLies x = new BellOfLies();
            for (int n : sizes) {
                due("a missing one", x.sheet(s, -1, n), 1);
                due("it is missing", x.judge(s), MISSING);
                x.sheet(s, n & 1, 3);
                due("it isn't", x.judge(s), -1);
                due("sheet(" + s + ", -1, " + n + ")", x.sheet(s, -1, n), 1);
                due("it is missing", x.cell(s, 0, 0), MISSING);
            }
        }
    }

    private static void sheetRefused() {
        sentence("Promise 33", "BAD: SHEET, sort, n above 40; -14.");
        BellOfLies x = new BellOfLies();
        row(x, 0, 0, 0, 0);
        int[] sheets = { LEAST, -1, 4, MOST };
        int[] sorts = { LEAST, -2, 3, MOST };
        for (int i = 0; i < 4; i++) {
            for (int n = -1; n <= 41; n += 21) {
                due("sheet(" + sheets[i] + ", 2, " + n + ")", x.sheet(sheets[i], 2, n), BAD);
                due("sheet(" + sheets[i] + ", -1, " + n + ")", x.sheet(sheets[i], -1, n), BAD);
                due("sheet(0, " + sorts[i] + ", " + n + ")", x.sheet(0, sorts[i], n), BAD);
            }
        }
        for (int sort = 0; sort < 3; sort++) {
            due("41", x.sheet(0, sort, 41), BAD);
            due("most", x.sheet(0, sort, MOST), BAD);
            due("-1", x.sheet(0, sort, -1), BELOW_ZERO);
            due("least", x.sheet(0, sort, LEAST), BELOW_ZERO);
        }
        due("it stays", x.judge(0), -1);
        due("it stays", x.copy(0, 0, 0, 0, 3), 3);
        due("it stays", x.townBy(0, 2, 0, 0), 0);
    }

    /** Number 2 of a sheet of a sort becomes v: then it is the other one, as the OWN of one who comes by it tells. */
    private static void becomes(int sort, int v, int is) {
        int s = 3 - sort;
        BellOfLies x = new BellOfLies();
        x.sheet(s, sort, 3);
        due("cell(" + s + ", 2, " + v + ")", x.cell(s, 2, v), 1);
        due("who came by " + is, x.townBy(s, sort, 0, 1), is >= 0 && is <= ALL ? 1 : 0);
        due("OWN", x.tells(0, 2), is >= 0 && is <= ALL ? is : NO_PERSON);
    }

    private static void cellOfBytes() {
        sentence("Promise 34", "Number i of a SHEET becomes v (of bytes, shorts its lowest 8, 16 bits): 1.");
        int[] vs = { 0, 1, 127, 128, 255, 256, 257, 383, 384, -1, -128, -129, -256, -257, 65535, 65536 + 127, LEAST, MOST };
        for (int v : vs) {
            becomes(0, v, (byte) v);
        }
    }

    private static void cellOfShorts() {
        sentence("Promise 34", "Number i of a SHEET becomes v (of bytes, shorts its lowest 8, 16 bits): 1.");
        int[] vs = { 0, 128, 255, 256, 32767, 32768, 65535, 65536, 65537, 98303, 98304, -1, -32768, -32769, -65536, LEAST, MOST };
        for (int v : vs) {
            becomes(1, v, (short) v);
        }
    }

    private static void cellOfInts() {
        sentence("Promise 34", "Number i of a SHEET becomes v");
        int[] vs = { 0, 255, 256, 65535, 65536, ALL, ALL + 1, -1, LEAST, MOST };
        for (int v : vs) {
            becomes(2, v, v);
        }
        for (int sort = 0; sort < 3; sort++) {
            BellOfLies x = ruledTown("lies 1;costs 0;strokes hour+1;", 0, 0, ALL);
            x.sheet(0, sort, 24);
            for (int i = 0; i < 24; i++) {
                due("number " + i + " is otherwise yet", x.judge(0), i);
                due("cell(0, " + i + ", ..)", x.cell(0, i, i + 1), 1);
            }
            due("all are as told", x.judge(0), -1);
        }
    }

    private static void cellRefused() {
        sentence("Promise 34", "BAD: SHEET; -11; -12.");
        BellOfLies x = new BellOfLies();
        x.sheet(0, 0, 0);
        x.sheet(1, 1, 1);
        x.sheet(2, 2, 40);
        int[] sheets = { LEAST, -1, 4, MOST };
        int[] places = { LEAST, -1, 40, 41, MOST };
        for (int s : sheets) {
            due("cell(" + s + ", 0, 0)", x.cell(s, 0, 0), BAD);
            due("BAD is told ahead", x.cell(s, -1, 0), BAD);
        }
        for (int i : places) {
            due("missing, number " + i, x.cell(3, i, 0), MISSING);
            due("of none, number " + i, x.cell(0, i, 0), OUTSIDE);
            due("of one, number " + i, x.cell(1, i, 0), OUTSIDE);
            due("of 40, number " + i, x.cell(2, i, 0), OUTSIDE);
        }
        due("missing, number 0", x.cell(3, 0, 0), MISSING);
        due("of none, number 0", x.cell(0, 0, 0), OUTSIDE);
        due("of one, number 0", x.cell(1, 0, 0), 1);
        due("of one, number 1", x.cell(1, 1, 0), OUTSIDE);
        due("of 40, number 39", x.cell(2, 39, 0), 1);
    }

    private static void copyOfNumbers() {
        sentence("Promise 35", "n numbers of a SHEET, from i on, come to another one's (or its own) place j");
        for (int sort = 0; sort < 3; sort++) {
            BellOfLies x = ruledTown("lies 1;costs 0;strokes hour+1;", 0, 0, ALL);
            x.sheet(0, sort, 40);
            for (int i = 0; i < 24; i++) {
                x.cell(0, 16 + i, i + 1);
            }
            x.sheet(1, sort, 24);
            due("the last 24 to the first", x.copy(0, 16, 1, 0, 24), 24);
            due("all of them", x.judge(1), -1);
            due("none at the end", x.copy(0, 40, 1, 24, 0), 0);
            due("none at the begin", x.copy(0, 0, 1, 0, 0), 0);
            due("all of them", x.judge(1), -1);
            due("one, the first to the last", x.copy(1, 0, 1, 23, 1), 1);
            due("24 is 1", x.judge(1), 23);
            due("one, the last", x.copy(0, 39, 1, 23, 1), 1);
            due("all of them", x.judge(1), -1);
            due("all to itself", x.copy(1, 0, 1, 0, 24), 24);
            due("all of them", x.judge(1), -1);
            due("all of 40", x.copy(0, 0, 0, 0, 40), 40);
        }
    }

    private static void copyAsTheyWere() {
        sentence("Promise 35", "(as they were): n.");
        BellOfLies x = ruledTown("lies 1;costs 0;strokes hour+1;", 0, 0, ALL);
        row(x, 0, 1, 2, 3, 4, 5, 6, 7);
        due("up", x.copy(0, 0, 0, 1, 6), 6);
        row(x, 1, 1, 1, 2, 3, 4, 5, 6);
        alike(x, 7);
        row(x, 0, 1, 2, 3, 4, 5, 6, 7);
        due("down", x.copy(0, 1, 0, 0, 6), 6);
        row(x, 1, 2, 3, 4, 5, 6, 7, 7);
        alike(x, 7);
    }

    /** Sheets 0 and 1 are alike: each number, told alone at its own hour, is as the HOUR and 1, or neither is. */
    private static void alike(BellOfLies x, int n) {
        for (int i = 0; i < n; i++) {
            x.sheet(2, 2, 1);
            x.copy(0, i, 2, 0, 1);
            int first = x.hours(2);
            x.copy(1, i, 2, 0, 1);
            due("number " + i, first, x.hours(2));
        }
    }

    private static void copyRefused() {
        sentence("Promise 35", "BAD: SHEETS; -11; -13: unlike sorts; -12 (n below 0, too).");
        BellOfLies x = new BellOfLies();
        x.sheet(0, 0, 5);
        x.sheet(1, 1, 5);
        x.sheet(2, 2, 5);
        int[] sheets = { LEAST, -1, 4, MOST };
        for (int s : sheets) {
            due("from " + s, x.copy(s, 0, 0, 0, 1), BAD);
            due("to " + s, x.copy(0, 0, s, 0, 1), BAD);
            due("from " + s + " to a missing one", x.copy(s, -1, 3, 0, 1), BAD);
            due("from a missing one to " + s, x.copy(3, -1, s, 0, -1), BAD);
        }
        for (int s = 0; s < 3; s++) {
            due("from a missing one", x.copy(3, 0, s, 0, 1), MISSING);
            due("to a missing one", x.copy(s, 0, 3, 0, 1), MISSING);
            due("-11 ahead of -12", x.copy(s, -1, 3, 9, -1), MISSING);
            due("none to a missing one", x.copy(s, 0, 3, 0, 0), MISSING);
            due("unlike", x.copy(s, 0, (s + 1) % 3, 0, 1), UNLIKE);
            due("none to an unlike one", x.copy(s, 0, (s + 2) % 3, 0, 0), UNLIKE);
            due("-13 ahead of -12", x.copy(s, -1, (s + 1) % 3, 9, -1), UNLIKE);
        }
        due("both missing", x.copy(3, 0, 3, 0, 0), MISSING);
    }

    private static void copyOutside() {
        sentence("Promise 35", "-12 (n below 0, too).");
        BellOfLies x = ruledTown("lies 1;costs 0;strokes hour+1;", 0, 0, ALL);
        row(x, 0, 9, 9, 9, 9, 9);
        row(x, 1, 1, 2, 3);
        int[][] outs = { { -1, 0, 1 }, { 0, -1, 1 }, { 0, 0, -1 }, { 5, 0, 1 }, { 0, 3, 1 }, { 0, 0, 4 }, { 3, 0, 3 }, { 0, 1, 3 }, { 6, 0, 0 },
            { 0, 4, 0 }, { -1, 0, 0 }, { 0, -1, 0 }, { MOST, 0, 1 }, { 0, MOST, 1 }, { 0, 0, MOST }, { 1, 0, MOST }, { 0, 1, MOST },
            { MOST, MOST, MOST }, { LEAST, 0, 1 }, { 0, LEAST, 1 }, { 0, 0, LEAST }, { LEAST, LEAST, LEAST }, { MOST, 0, LEAST } };
        for (int[] o : outs) {
            due("copy(0, " + o[0] + ", 1, " + o[1] + ", " + o[2] + ")", x.copy(0, o[0], 1, o[1], o[2]), OUTSIDE);
            due("nothing came", x.judge(1), -1);
        }
        due("the last of each", x.copy(0, 4, 1, 2, 1), 1);
        due("it came", x.judge(1), 2);
    }

    // ---- towns by sheets

    private static void townByTriples() {
        sentence("Promise 36", "PEOPLE by a SHEET of a sort: from a place on, three by three (as of person()), n of them (0 .. 6): how many came");
        for (int sort = 0; sort < 3; sort++) {
            for (int n = 0; n <= 6; n++) {
                BellOfLies x = new BellOfLies();
                x.sheet(0, sort, 40);
                for (int i = 0; i < 40; i++) {
                    x.cell(0, i, i + 1);
                }
                due("townBy(0, " + sort + ", 22, " + n + ")", x.townBy(0, sort, 22, n), n);
                due("PEOPLE", x.count(0), n);
                for (int p = 0; p < n; p++) {
                    int at = 22 + 3 * p + 1;
                    due("KIND, MORE", x.tells(p, 4) * 10 + x.tells(p, 5), at);
                    due("NERVE", x.tells(p, 0), at + 1);
                    due("OWN", x.tells(p, 2), at + 2);
                }
            }
        }
        BellOfLies x = new BellOfLies();
        row(x, 0, 59, 99, ALL, 0, 0, 0);
        due("from 0", x.townBy(0, 2, 0, 2), 2);
        due("the first", x.tells(0, 2), ALL);
        due("the second", x.tells(1, 2), 0);
    }

    private static void townByLeavesOut() {
        sentence("Promise 36", "how many came (others are left out).");
        BellOfLies x = new BellOfLies();
        row(x, 0, -1, 0, 0, 60, 0, 0, 0, -1, 0, 0, 100, 0, 0, 0, -1, 0, 0, 16777216);
        due("six BAD ones", x.townBy(0, 2, 0, 6), 0);
        due("nobody came", x.count(0), 0);
        row(x, 0, 60, 0, 0, 0, 7, 0, 0, 100, 0, 59, 8, 1, 0, 0, -1, 1, 9, 2);
        due("three of six", x.townBy(0, 2, 0, 6), 3);
        due("one behind the other", x.tells(0, 0) * 100 + x.tells(1, 0) * 10 + x.tells(2, 0), 789);
        due("three more", x.townBy(0, 2, 0, 6), 3);
        due("six", x.count(0), 6);
        due("FULL ones are left out", x.townBy(0, 2, 0, 6), 0);
        due("six", x.count(0), 6);
        x = town(0, 0, 0, 0, 0, 0, 0, 0, 0, 0, 0, 0, 0, 0, 0);
        x.sheet(0, 1, 18);
        due("the sixth alone came", x.townBy(0, 1, 0, 6), 1);
    }

    private static void townByRefused() {
        sentence("Promise 36", "BAD: SHEET, sort, n; -11; -13;");
        BellOfLies x = new BellOfLies();
        x.sheet(0, 0, 18);
        x.sheet(1, 1, 18);
        x.sheet(2, 2, 18);
        int[] sheets = { LEAST, -1, 4, MOST };
        int[] sorts = { LEAST, -1, 3, MOST };
        int[] sizes = { LEAST, -1, 7, MOST };
        for (int i = 0; i < 4; i++) {
            due("sheet " + sheets[i], x.townBy(sheets[i], 0, 0, 1), BAD);
            due("sort " + sorts[i], x.townBy(0, sorts[i], 0, 1), BAD);
            due("n " + sizes[i], x.townBy(0, 0, 0, sizes[i]), BAD);
            due("sort " + sorts[i] + " of a missing one", x.townBy(3, sorts[i], 0, 1), BAD);
            due("n " + sizes[i] + " of a missing one", x.townBy(3, 0, 0, sizes[i]), BAD);
            due("n " + sizes[i] + " of an unlike one", x.townBy(0, 1, -1, sizes[i]), BAD);
        }
        for (int sort = 0; sort < 3; sort++) {
            due("missing", x.townBy(3, sort, 0, 0), MISSING);
            due("-11 ahead of -12", x.townBy(3, sort, -1, 1), MISSING);
            for (int s = 0; s < 3; s++) {
                due("sheet " + s + " as of sort " + sort, x.townBy(s, sort, 0, 0), s == sort ? 0 : UNLIKE);
                due("-13 ahead of -12", x.townBy(s, sort, 18, 1), s == sort ? OUTSIDE : UNLIKE);
            }
        }
        due("nobody came", x.count(0), 0);
    }

    private static void townByOutside() {
        sentence("Promise 36", "-12: what stood ahead came.");
        int[] froms = { LEAST, -3, -1, 7, 8, 9, 10, MOST, MOST - 1, MOST - 2, MOST - 3 };
        for (int from : froms) {
            BellOfLies x = new BellOfLies();
            x.sheet(0, 2, 9);
            due("one from " + from, x.townBy(0, 2, from, 1), OUTSIDE);
            due("six from " + from, x.townBy(0, 2, from, 6), OUTSIDE);
            due("nobody came", x.count(0), 0);
        }
        int[] starts = { 0, 1, 2, 3, 6, 7 };
        int[] whole = { 3, 2, 2, 2, 1, 0 };
        for (int i = 0; i < starts.length; i++) {
            for (int n = 1; n <= 6; n++) {
                BellOfLies x = new BellOfLies();
                x.sheet(0, 2, 9);
                due(n + " from " + starts[i], x.townBy(0, 2, starts[i], n), n <= whole[i] ? n : OUTSIDE);
                due("so many came", x.count(0), Math.min(n, whole[i]));
            }
        }
        BellOfLies x = town(0, 0, 0, 0, 0, 0, 0, 0, 0, 0, 0, 0, 0, 0, 0, 0, 0, 0);
        x.sheet(0, 0, 3);
        due("outside, though none has room", x.townBy(0, 0, 0, 2), OUTSIDE);
        x = new BellOfLies();
        row(x, 0, 1, 1, 1, 99, 1, 1, 2, 2, 2, 3, 3);
        due("outside, behind one who is left out", x.townBy(0, 2, 0, 4), OUTSIDE);
        due("two came", x.count(0), 2);
    }

    // ---- what lies there

    private static void takenOfPeople() {
        sentence("Promise 37", "What lies at place i: 0 .. 5 PEOPLE, [..] taken for 0 .. 5 one of that KIND (also of one that is one): the number");
        String[] isOne = { "100000", "110000", "101000", "110100", "101010", "100001" };
        for (int kind = 0; kind < 6; kind++) {
            BellOfLies x = new BellOfLies();
            for (int p = 0; p < 6; p++) {
                x.person(10 * kind, 0, 0);
                for (int as = 0; as < 6; as++) {
                    due("KIND " + kind + " as " + as, x.taken(p, as), isOne[kind].charAt(as) == '1' ? p : UNLIKE);
                }
                due("as OWN HOURS", x.taken(p, 6), UNLIKE);
            }
        }
    }

    private static void takenOfHours() {
        sentence("Promise 37", "6 .. 11 their OWN HOURS, [..] 6 OWN (bits).");
        int[] owns = { 0, 1, ALL, 1 << 23, 85, ALL - 1 };
        BellOfLies x = new BellOfLies();
        for (int p = 0; p < 6; p++) {
            due("of one who hasn't come", x.taken(6 + p, 6), MISSING);
            x.person(10 * p, 0, owns[p]);
            due("OWN", x.taken(6 + p, 6), owns[p]);
            for (int as = 0; as < 6; as++) {
                due("OWN HOURS as KIND " + as, x.taken(6 + p, as), UNLIKE);
            }
            x.put(p, 2, ALL - owns[p]);
            due("OWN then", x.taken(6 + p, 6), ALL - owns[p]);
        }
    }

    private static void takenRefused() {
        sentence("Promise 37", "BAD: kind; -12: i; -11: none such; -13.");
        int[] kinds = { LEAST, -1, 7, MOST };
        int[] places = { LEAST, -1, 12, MOST };
        for (int people = 0; people < 2; people++) {
            BellOfLies x = people == 0 ? new BellOfLies() : town(0, 9, ALL);
            for (int i = 0; i < 4; i++) {
                due("kind " + kinds[i], x.taken(0, kinds[i]), BAD);
                due("kind " + kinds[i] + ", ahead of -12", x.taken(places[i], kinds[i]), BAD);
                due("kind " + kinds[i] + ", ahead of -11", x.taken(5, kinds[i]), BAD);
                due("place " + places[i], x.taken(places[i], 0), OUTSIDE);
                due("place " + places[i], x.taken(places[i], 6), OUTSIDE);
            }
            for (int i = people; i < 6; i++) {
                for (int kind = 0; kind <= 6; kind++) {
                    due("taken(" + i + ", " + kind + ") of " + people, x.taken(i, kind), MISSING);
                    due("taken(" + (6 + i) + ", " + kind + ") of " + people, x.taken(6 + i, kind), MISSING);
                }
            }
        }
    }
}

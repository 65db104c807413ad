/** Each promise of the document by answers that were worked out by hand. */
public final class PromisesTest extends Answers {
    public static void main(String[] args) {
        newObject();
        counts();
        clocks();
        feeds();
        goodTexts();
        faults();
        textValues();
        laws4();
        persons();
        puts();
        kindsOfLying();
        kindsOfCost();
        kindsOfStrokes();
        bells();
        strikes();
        runs();
        whens();
        dials();
        hushes();
        councils();
        lessons();
        pairs();
        means();
        shares();
        judges();
        kindsAndNerves();
        turnedHoursLaws();
        films();
        crowds();
        images();
        sheets();
        copies();
        townsBySheets();
        takens();
        finish();
    }

    private static void due(int promise, String call, long got, long want) {
        due("promise " + promise + ": " + call, got, want);
    }

    private static void newObject() {
        BellOfLies x = new BellOfLies();
        int[] first = { 0, 0, 0, 1, 0, 0, 0 };
        for (int w = 0; w < first.length; w++) {
            due(1, "count(" + w + ")", x.count(w), first[w]);
        }
        for (int s = 0; s < 4; s++) {
            due(1, "cell of a missing sheet", x.cell(s, 0, 0), -11);
        }
        due(1, "bell(3)", x.bell(3), 0);
        due(1, "tells of nobody", x.tells(0, 0), -5);
        due(1, "back()", x.back(), -3);
        x.person(0, 17, ALL);
        due(1, "the first law lies", x.asks(0, 0), 17);
        due(1, "the first law costs", x.asks(1, 0), 1);
        due(1, "the first law strokes", x.asks(2, 0), 1);
    }

    private static void counts() {
        BellOfLies x = town(0, 5, ALL, 23, 9, ALL);
        x.clock(30);
        x.strike();
        rule(x, FREE);
        x.feed(3, 1, 2, 3, 0, 0);
        int[] want = { 2, 31, 5, 2, 1, 3, 5 };
        for (int w = 0; w < want.length; w++) {
            due(2, "count(" + w + ")", x.count(w), want[w]);
        }
        due(2, "count(-1)", x.count(-1), -2);
        due(2, "count(7)", x.count(7), -2);
        due(2, "count(least)", x.count(Integer.MIN_VALUE), -2);
    }

    private static void clocks() {
        BellOfLies x = town(0, 5, ALL);
        x.strike();
        due(3, "clock(9999)", x.clock(9999), 1);
        due(3, "clock(10000)", x.clock(10000), -2);
        due(3, "clock(-1)", x.clock(-1), -2);
        due(3, "clock(0)", x.clock(0), 9999);
        due(3, "clock(24)", x.clock(24), 0);
        due(3, "HOUR", x.count(1), 24);
        due(3, "TOLL stays", x.count(2), 1);
        due(3, "LAST stays", x.count(6), 1);
    }

    private static void feeds() {
        BellOfLies x = new BellOfLies();
        due(4, "n 0", x.feed(0, 0, 0, 0, 0, 0), -2);
        due(4, "n 6", x.feed(6, 0, 0, 0, 0, 0), -2);
        for (int i = 0; i < 5; i++) {
            for (int v = -1; v <= 256; v += 257) {
                int[] b = { 1, 1, 1, 1, 1 };
                b[i] = v;
                due(4, "byte " + i + " is " + v, x.feed(1, b[0], b[1], b[2], b[3], b[4]), -2);
            }
        }
        due(4, "nothing came", x.count(5), 0);
        due(4, "feed(5)", x.feed(5, 'l', 'i', 'e', 's', 255), 5);
        due(4, "feed(2)", x.feed(2, 0, 255, 9, 9, 9), 7);
        due(4, "in their order: the fault is behind lies", x.text(), -104);
        for (int i = 1; i <= 31; i++) {
            due(4, "feed 5 by 5", x.feed(5, 32, 32, 32, 32, 32), 5 * i);
        }
        due(4, "feed to 158", x.feed(3, 32, 32, 32, 0, 0), 158);
        due(4, "3 have no room", x.feed(3, 32, 32, 32, 0, 0), -4);
        due(4, "BAD is told ahead of FULL", x.feed(3, 32, 32, 32, 0, -1), -2);
        due(4, "none came", x.count(5), 158);
        due(4, "2 have", x.feed(2, 32, 32, 0, 0, 0), 160);
        due(4, "1 has no room", x.feed(1, 32, 0, 0, 0, 0), -4);
        due(4, "the fault of 160 blanks", x.text(), -260);
        due(4, "then it is empty", x.count(5), 0);
    }

    private static void goodTexts() {
        String[] texts = {
            "lies nerve ; costs 1 ; strokes 1 ;", "lies1;costs2;strokes3;", "\nlies 1;\n costs 1;\nstrokes 1;\n \n",
            "lies not not not not not 1;costs 1;strokes 1;", "lies -----1;costs-----1;strokes----- 1;",
            "lies (((((1)))));costs (((((1)))))+(((((1)))));strokes 1;", "lies not(-(-1));costs 0000;strokes 9999;",
            "lies (1)+(1)+(1)+(1)+(1)+(1)+(1);costs -1 - -1 - -1 - -1 - -1 - -1 - -1;strokes 1;",
            "lies not 1 and not 1 and not 1 or not 1 or not 1 and not 1 or not 1;costs 1;strokes 1;",
            "lies told=hour;costs last<people;strokes more*nerve-1+2;", "lies 1<(1<2);costs 1;strokes 1=(1=1);",
            "lies 1-1;costs 1--1;strokes 1-(-1);", "lies(1)or(0)and(1);costs 1;strokes 1;",
            "lies -(-(-1));costs 1;strokes 1;", "lies not -1 < -2;costs 1;strokes 1;" };
        BellOfLies x = null;
        for (int i = 0; i < texts.length; i++) {
            x = i % 5 == 0 ? new BellOfLies() : x;
            due(5, texts[i], read(x, texts[i]), i % 5 + 1);
            due(5, "THE TAPE is empty then", x.count(5), 0);
            due(5, "TEXTS", x.count(3), i % 5 + 2);
        }
        due(5, "six are FULL", read(x, texts[0]), -4);
        due(5, "THE TAPE stays", x.count(5), texts[0].length());
        due(5, "THE LAW stays", x.count(4), 0);
        due(5, "FULL ahead of a FAULT", read(x, "x"), -4);
    }

    /** A ^ stands where the fault is due. */
    private static void faults() {
        String[] texts = {
            "^", "  ^", "^;", "^costs 1;", "^nerve", "^1", "^Lies", "^liess", "^lie", "lies^", "lies ^", "lies \n^",
            "lies ^;", "lies ^costs", "lies ^lies", "lies ^and 1", "lies ^or", "lies ^)", "lies ^<1", "lies ^=1",
            "lies ^+1", "lies ^*1", "lies 1^", "lies 1 ^", "lies 1 ^costs 1;", "lies 1;^", "lies 1; ^strokes 1;",
            "lies 1; ^lies 1;", "lies 1;costs 1;^", "lies 1;costs 1; ^costs 1;", "lies 1;costs 1;strokes 1^",
            "lies 1;costs 1;strokes 1;^;", "lies 1;costs 1;strokes 1; ^lies", "lies 1;costs 1;strokes 1;\n^9",
            "lies 1;costs 1;strokes 1; ^12345", "lies 1;costs 1;strokes 1; ^!", "lies ^Nerve", "lies 1 ^, 2",
            "lies ^nervex;", "lies ^nervez;", "lies ^anerve;", "lies ^nerv;", "^dies 1;", "lies ^mold;", "lies 1 ^ar 1;", "lies ^nervf;", "lies nerve^_;", "lies 1^\t;", "lies ^12345;", "lies ^00001;",
            "lies 1 ^2;", "lies 1^nerve;", "lies 1 ^12345", "lies 1234 ^5", "lies nerve ^told", "lies nerve ^(1)",
            "lies nerve ^not 1", "lies 1 ^not 1", "lies (((((^(1))))));", "lies not not not not not ^not 1;",
            "lies -----^-1;", "lies (((((^-1)))));", "lies (((((^not 1", "lies not(-(-^(1", "lies -(-(-^-1",
            "lies 1-(((((^-1", "lies (((((1-^-1", "lies (((((1-^", "lies 1 < 2 ^< 3;", "lies 1 = 2 ^< 3;", "lies 1 < 2 ^= 3;",
            "lies not 1 < ^not 2;", "lies 1 + ^not 1;", "lies - ^not 1;", "lies 1 * ^not 1;", "lies (1 ^;", "lies 1^);",
            "lies (1)^);", "lies (1^", "lies 1 * ^* 2", "lies 1 + ^+ 2", "lies 1 or ^or", "lies 1 and ^or", "lies (^)",
            "lies 1 or ^;", "lies not ^;", "lies not ^and", "lies 1 < ^;", "lies 1 < ^< 2", "lies 1 - ^;", "lies (1 ^2", "lies 1 ^lies", "lies hour ^hours", "lies ^hours", "lies ^notnerve", "lies not^",
            "lies (((((1)))))+(((((^(1", "lies 1;costs 1;strokes nerve ^nerve;" };
        for (String marked : texts) {
            int at = marked.indexOf('^');
            String text = marked.substring(0, at) + marked.substring(at + 1);
            BellOfLies x = new BellOfLies();
            due(5, marked, read(x, text), -100 - at);
            due(5, "THE TAPE is empty, by a FAULT too", x.count(5), 0);
            due(5, "TEXTS", x.count(3), 1);
            due(5, "the next one is the first", read(x, FREE), 1);
        }
        int[] strange = { 0, 9, 13, 33, 47, 58, 62, 64, 96, 123, 128, 160, 225, 255 };
        for (int b : strange) {
            BellOfLies x = new BellOfLies();
            feedAll(x, "lies ");
            x.feed(1, b, 0, 0, 0, 0);
            due(5, "byte " + b, x.text(), -105);
        }
    }

    private static void textValues() {
        String[] sums = { "1+2*3", "(1+2)*3", "10-3-2", "2-3", "-3+5", "--3", "-2*3", "2*-3", "1 or 0", "5 and 7", "1 and 1", "1 and 0", "0 and 1", "0 or 1", "0 or 0",
            "5 and 0", "not 5", "not 0", "not not 5", "1<2", "2<1", "2<2", "2=2", "1=2", "not 1=2", "not 2=2", "1 or 1 and 0",
            "0 and 0 or 1", "1+1<3", "1<1+1", "not 0+5", "-1<0", "98+0", "99+0", "100+0", "-98", "-99", "-100", "9999",
            "-9999", "9999*9999*22", "9999*9999*21", "9999*9999*43-9999*417-3100", "0010", "7 or nerve", "-1 and -1",
            "nerve", "told", "hour", "last", "people", "more", "more*10+people", "2*3+4*5", "(1<2)+(1=1)+1", "8-2*3", "8-(2-3)" };
        int[] want = { 7, 9, 5, -1, 2, 3, -6, -6, 1, 1, 1, 0, 0, 1, 0,
            0, 0, 1, 1, 1, 0, 0, 1, 0, 1, 0, 1,
            1, 1, 1, 0, 1, 98, 99, 99, -98, -99, -99, 99,
            -99, -99, 99, 64, 10, 1, 1,
            29, 1, 7, 6, 2, 4, 42, 26, 3, 2, 9 };
        for (int i = 0; i < sums.length; i++) {
            BellOfLies x = town(4, 30, ALL, 25, 9, ALL);
            x.clock(30);
            due(12, "strike()", x.strike(), 7);
            x.put(1, 0, 0);
            x.clock(54);
            due(12, "strike()", x.strike(), 1);
            x.put(0, 1, 1);
            x.put(0, 0, 29);
            x.put(1, 0, 9);
            x.put(0, 3, 1);
            x.clock(54);
            due(12, "strike()", x.strike(), 6);
            due(7, "read " + sums[i], read(x, "lies " + sums[i] + ";costs " + sums[i] + ";strokes " + sums[i] + ";"), 1);
            x.force(1);
            due(7, "costs " + sums[i], x.asks(1, 0), want[i]);
            due(7, "lies " + sums[i], x.asks(0, 0), Math.max(0, want[i]));
            due(7, "strokes " + sums[i], x.asks(2, 0), Math.max(0, want[i]));
        }
        BellOfLies x = ruledTown("lies told-90;costs hour-10;strokes told;", 0, 1, 0);
        x.put(0, 1, 98);
        due(7, "TOLD", x.asks(0, 0), 8);
        x.put(0, 1, 99);
        due(7, "TOLD", x.asks(0, 0), 9);
        x.put(0, 1, 150);
        due(7, "TOLD, 99 at most", x.asks(0, 0), 9);
        x.clock(47);
        due(7, "the HOUR of the day", x.asks(1, 0), 13);
        x.clock(48);
        due(7, "the HOUR of the day", x.asks(1, 0), -10);
        int[][] none = { { -1, 0 }, { 3, 0 }, { 0, 1 }, { 0, -1 }, { 9, 9 } };
        for (int[] n : none) {
            due(7, "asks of none such", x.asks(n[0], n[1]), -1000);
        }
    }

    private static void laws4() {
        BellOfLies x = town(0, 5, ALL);
        due(6, "force(1)", x.force(1), -2);
        due(6, "force(-1)", x.force(-1), -2);
        due(6, "force(0)", x.force(0), 0);
        read(x, "lies 1;costs 2;strokes 3;");
        read(x, "lies 0;costs 4;strokes 5;");
        due(6, "a text is no law by itself", x.asks(2, 0), 1);
        due(6, "force(2)", x.force(2), 0);
        due(6, "THE LAW", x.asks(2, 0), 5);
        due(6, "force(1)", x.force(1), 2);
        due(6, "THE LAW", x.asks(2, 0), 3);
        due(6, "force(3)", x.force(3), -2);
        due(6, "force(6)", x.force(6), -2);
        due(6, "force(0)", x.force(0), 1);
    }

    private static void persons() {
        BellOfLies x = new BellOfLies();
        int[][] bad = { { -1, 0, 0 }, { 60, 0, 0 }, { 0, -1, 0 }, { 0, 100, 0 }, { 0, 0, -1 }, { 0, 0, ALL + 1 } };
        for (int[] b : bad) {
            due(8, "BAD person", x.person(b[0], b[1], b[2]), -2);
        }
        due(8, "nobody came", x.count(0), 0);
        due(8, "person", x.person(0, 0, 0), 0);
        due(8, "person", x.person(59, 99, ALL), 1);
        due(8, "person", x.person(37, 50, 8), 2);
        due(10, "KIND", x.tells(1, 4), 5);
        due(10, "MORE", x.tells(1, 5), 9);
        due(10, "NERVE", x.tells(1, 0), 99);
        due(10, "OWN", x.tells(1, 2), ALL);
        due(10, "TOLD", x.tells(1, 1), 0);
        due(10, "VOW", x.tells(1, 3), 0);
        due(10, "KIND", x.tells(2, 4), 3);
        due(10, "MORE", x.tells(2, 5), 7);
        x.person(0, 0, 0);
        x.person(0, 0, 0);
        due(8, "the sixth", x.person(0, 0, 0), 5);
        due(8, "FULL", x.person(0, 0, 0), -4);
        for (int[] b : bad) {
            due(8, "BAD ahead of FULL", x.person(b[0], b[1], b[2]), -2);
        }
        due(10, "none such", x.tells(6, 99), -5);
        due(10, "none such", x.tells(-1, 0), -5);
        due(10, "what", x.tells(0, 9), -7);
        due(10, "what", x.tells(0, -1), -7);
    }

    private static void puts() {
        BellOfLies x = town(0, 30, 5);
        int[] most = { 99, 9999, ALL, 1 };
        int[] was = { 30, 0, 5, 0 };
        for (int w = 0; w < 4; w++) {
            due(9, "too much", x.put(0, w, most[w] + 1), -7);
            due(9, "below 0", x.put(0, w, -1), -7);
            due(9, "it stays", x.tells(0, w), was[w]);
            due(9, "put", x.put(0, w, most[w]), was[w]);
            due(9, "it became so", x.tells(0, w), most[w]);
            due(9, "put again", x.put(0, w, most[w]), most[w]);
            due(9, "put 0", x.put(0, w, 0), most[w]);
            due(9, "it became 0", x.tells(0, w), 0);
        }
        due(9, "what", x.put(0, 4, 0), -7);
        due(9, "what", x.put(0, -1, 0), -7);
        due(9, "none such, ahead of what", x.put(1, 4, -1), -5);
        due(9, "none such", x.put(-1, 0, 0), -5);
    }

    /** What tells(0, 6) answers for one of a kind, at an hour, after so many strokes at last. */
    private static int lying(int kindMore, int own, int hour, int last, String says) {
        BellOfLies x = ruledTown("lies " + says + ";costs 0;strokes " + last + ";", kindMore, 50, 0, 0, 0, ALL);
        read(x, "lies 1;costs 0;strokes " + last + ";");
        x.force(2);
        x.strike();
        x.put(0, 2, own);
        x.force(1);
        x.clock(hour);
        return x.tells(0, 6);
    }

    private static void kindsOfLying() {
        for (int k = 0; k < 6; k++) {
            int poetOrMad = k >= 4 ? 1 : 0;
            int lovers = k == 1 || k == 3 ? 1 : 0;
            int mad = k == 5 ? 1 : 0;
            due(10, "OWN hour, says so, KIND " + k, lying(10 * k + 4, 32, 29, 6, "1"), 1);
            due(10, "OWN hour, doesn't say so, KIND " + k, lying(10 * k + 4, 32, 29, 6, "0"), poetOrMad);
            due(10, "OWN hour, says less than 0, KIND " + k, lying(10 * k + 4, 32, 29, 6, "-5"), poetOrMad);
            due(10, "another hour, KIND " + k, lying(10 * k + 4, 32, 30, 6, "1"), mad);
            due(10, "the hour 4, KIND " + k, lying(10 * k + 4, 32, 28, 6, "1"), k == 5 ? 1 : lovers);
            due(10, "the hour 16, KIND " + k, lying(10 * k + 4, 32, 16, 6, "1"), k == 5 ? 1 : lovers);
            due(10, "the hour 16, not saying so, KIND " + k, lying(10 * k + 4, 32, 16, 6, "0"), mad);
            due(10, "LAST is MORE, KIND " + k, lying(10 * k + 4, 32, 29, 4, "1"), k == 3 ? 0 : 1);
            due(10, "LAST is MORE and 1, KIND " + k, lying(10 * k + 4, 32, 29, 5, "1"), 1);
        }
        BellOfLies x = town(0, 9, ALL, 10, 9, ALL, 20, 9, ALL, 30, 9, ALL, 40, 9, ALL, 50, 9, ALL);
        x.strike();
        due(11, "all lie", x.bell(0), 63);
        for (int p = 0; p < 6; p++) {
            x.put(p, 3, 1);
            due(10, "who is under a VOW never lies", x.tells(p, 6), 0);
        }
        due(11, "none lies", x.bell(0), 0);
        due(11, "all are under a VOW", x.bell(3), 63);
        due(12, "none strikes", x.strike(), 0);
    }

    private static void kindsOfCost() {
        int[] of7 = { 7, 3, 7, 3, 7, 7 };
        int[] ofLess7 = { -7, -3, -7, -3, -7, -7 };
        for (int k = 0; k < 6; k++) {
            for (int last = 4; last <= 5; last++) {
                BellOfLies x = ruledTown("lies 1;costs 7;strokes " + last + ";", 10 * k + 3, 50, 0, 0, 0, ALL);
                read(x, "lies 1;costs -7;strokes 0;");
                x.strike();
                boolean free = last == 5 && (k == 2 || k == 4);
                due(10, "costs of KIND " + k, x.tells(0, 7), 1000 + (free ? 0 : of7[k]));
                x.put(0, 3, 1);
                due(10, "costs of KIND " + k + ", under a VOW", x.tells(0, 7), 1000 + (free ? 0 : of7[k]));
                x.force(2);
                due(10, "costs of KIND " + k, x.tells(0, 7), 1000 + (free ? 0 : ofLess7[k]));
            }
        }
    }

    private static void kindsOfStrokes() {
        int[][] want = { { 11, 11, 14, 22, 0, 0 }, { 11, 11, 14, 22, 14, 0 }, { 11, 11, 14, 22, 14, 0 } };
        for (int k = 0; k < 6; k++) {
            for (int hour = 24; hour < 75; hour++) {
                BellOfLies x = ruledTown("lies 0;costs 0;strokes 11;", 10 * k + 3, 50, 0);
                x.clock(hour);
                due(10, "strokes of KIND " + k, x.tells(0, 8), want[hour % 3][k]);
            }
        }
        BellOfLies x = ruledTown("lies 1;costs 0;strokes 100;", 29, 0, ALL, 39, 0, ALL);
        due(10, "MORE more than the bound", x.tells(0, 8), 108);
        due(10, "twice the bound", x.tells(1, 8), 198);
    }

    private static void bells() {
        BellOfLies x = town(3, 30, 1, 24, 20, 1, 50, 9, 0, 0, 9, 2);
        x.put(0, 3, 1);
        due(11, "who lies", x.bell(0), 6);
        due(11, "STRIKES", x.bell(1), 5);
        due(11, "TOLL", x.bell(2), 0);
        due(11, "VOWS", x.bell(3), 1);
        x.strike();
        due(11, "who lies", x.bell(0), 12);
        due(11, "STRIKES", x.bell(1), 1);
        due(11, "TOLL", x.bell(2), 5);
        due(11, "BAD", x.bell(4), -2);
        due(11, "BAD", x.bell(-1), -2);
    }

    private static void strikes() {
        BellOfLies x = town(0, 2, ALL);
        due(12, "strike", x.strike(), 1);
        due(12, "strike", x.strike(), 1);
        due(12, "NERVE", x.tells(0, 0), 0);
        due(12, "no nerve is left", x.strike(), 0);
        due(12, "TOLD", x.tells(0, 1), 2);
        due(12, "TOLL", x.count(2), 2);
        due(12, "LAST", x.count(6), 0);
        due(12, "HOUR", x.count(1), 3);
        x.put(0, 0, 9);
        x.clock(9998);
        due(12, "strike", x.strike(), 1);
        due(12, "at 9999", x.strike(), -3);
        due(12, "HOUR", x.count(1), 9999);
        due(12, "TOLL stays", x.count(2), 3);
        due(12, "NERVE stays", x.tells(0, 0), 8);
        x = ruledTown("lies 1;costs -50;strokes 99;", 29, 60, ALL, 39, 10, ALL);
        x.put(0, 1, 9999);
        due(12, "strike: the second doesn't lie at LAST 0", x.strike(), 108);
        due(12, "NERVE, 99 at most", x.tells(0, 0), 99);
        due(12, "TOLD, 9999 at most", x.tells(0, 1), 9999);
        due(12, "LAST, 99 at most", x.count(6), 99);
        due(12, "TOLL", x.count(2), 108);
        due(12, "strike", x.strike(), 306);
        due(12, "a LOVER's half", x.tells(1, 0), 35);
        due(12, "TOLD", x.tells(1, 1), 1);
        rule(x, "lies nerve;costs 99;strokes last-95;");
        due(12, "strike", x.strike(), 4 + 9 + 8);
        due(12, "a TRADER pays nothing at LAST 99", x.tells(0, 0), 99);
        due(12, "NERVE, 0 at least", x.tells(1, 0), 0);
        tollGrows();
    }

    /** The bound of TOLL is behind more hours than an object has calls. */
    private static void tollGrows() {
        int w = 39;
        BellOfLies x = ruledTown("lies 1;costs 0;strokes 99;", w, 0, ALL, w, 0, ALL, w, 0, ALL, w, 0, ALL, w, 0, ALL, 0, 0, ALL);
        due(12, "the first hour", x.strike(), 99);
        for (int i = 1; i < 400; i++) {
            due(12, "a later hour", x.strike(), 1089);
        }
        due(12, "TOLL", x.count(2), 99 + 399 * 1089);
    }

    private static void runs() {
        BellOfLies x = town(0, 2, ALL, 20, 5, ALL, 50, 7, 0);
        int[] together = { 0, 2, 4, 5, 6, 7, 7 };
        int[] then = { 2, 2, 1, 1, 1, 0, 0 };
        int[] who = { 7, 7, 6, 6, 6, 4, 4 };
        for (int n = 0; n < 7; n++) {
            due(13, "STRIKES together", x.run(n, 0), together[n]);
            due(13, "STRIKES then", x.run(n, 1), then[n]);
            due(13, "who lies then", x.run(n, 2), who[n]);
            due(13, "NERVE", x.run(n, 10), Math.max(0, 2 - n));
            due(13, "NERVE", x.run(n, 11), Math.max(0, 5 - n));
            due(13, "TOLD", x.run(n, 20), Math.min(2, n));
            due(13, "TOLD", x.run(n, 22), n);
        }
        due(13, "48", x.run(48, 22), 48);
        due(13, "49", x.run(49, 0), -2);
        due(13, "-1", x.run(-1, 0), -2);
        int[] bad = { -1, 3, 9, 13, 15, 16, 19, 23, 26, 99, Integer.MIN_VALUE, Integer.MAX_VALUE };
        for (int w : bad) {
            due(13, "what " + w, x.run(1, w), -2);
        }
        due(13, "nothing changed", x.count(1) + x.count(2) + x.count(6) + x.tells(2, 1), 0);
        x.clock(9999);
        due(13, "in thought HOUR may pass 9999", x.run(3, 0), 5);
    }

    private static void whens() {
        BellOfLies x = ruledTown("lies 1;costs 1;strokes 61-nerve;", 0, 61, ALL);
        due(14, "when(0)", x.when(0), 0);
        due(14, "when(1)", x.when(1), 1);
        due(14, "when(60)", x.when(60), 60);
        due(14, "when(61) is behind 61", x.when(61), -1);
        due(14, "when(999)", x.when(999), -1);
        due(14, "when(1000)", x.when(1000), -2);
        due(14, "when(-1)", x.when(-1), -2);
        x = ruledTown("lies hour<3;costs 0;strokes 2;", 0, 61, ALL);
        due(14, "the first time", x.when(2), 0);
        due(14, "the first time", x.when(0), 3);
    }

    private static void dials() {
        int[][] want = { { 2, 22, 22, 2, 0 }, { 0, 24, 24, 0, 0 }, { 24, 1, 1, 23, 23 }, { 0, 3, 3, 21, 21 } };
        BellOfLies[] xs = { town(0, 1, ALL, 0, 2, ALL), new BellOfLies(),
            ruledTown("lies 1;costs 0;strokes hour;", 0, 0, ALL),
            ruledTown("lies 1;costs 0;strokes 3*(2<hour)+3*(5<hour)+3*(8<hour)+3*(11<hour)+3*(14<hour)+3*(17<hour)+3*(20<hour);",
                0, 0, ALL) };
        for (int i = 0; i < xs.length; i++) {
            for (int w = 0; w < 5; w++) {
                due(15, "dial(" + w + ") of town " + i, xs[i].dial(w), want[i][w]);
            }
            due(15, "dial(5)", xs[i].dial(5), -2);
            due(15, "dial(-1)", xs[i].dial(-1), -2);
        }
        xs[2].clock(10);
        due(15, "the first such hour, from 0 on: 13 behind 10", xs[2].dial(4), 13);
        due(15, "nothing changed", xs[2].count(1), 10);
    }

    private static void hushes() {
        BellOfLies x = town(0, 1, ALL, 0, 2, ALL);
        due(16, "nobody makes more", x.hush(0), -1);
        due(16, "as so", x.hush(1), 2);
        x.person(0, 3, ALL);
        x.put(2, 3, 1);
        due(16, "without the vow of 2: 3, 2, 1", x.hush(0), 2);
        due(16, "three", x.hush(1), 3);
        x = town(0, 1, ALL, 0, 1, ALL, 0, 2, ALL, 0, 2, ALL);
        due(16, "as it is 4, 2, 0 ..", x.dial(0), 2);
        due(16, "by any: 3, 2 or 3, 1 are no more", x.hush(0), -1);
        x.put(1, 3, 1);
        x.put(0, 3, 1);
        due(16, "2, 2, 0 ..", x.dial(0), 0);
        due(16, "3, 2 by 0 as by 1: the first", x.hush(0), 0);
        due(16, "two", x.hush(1), 2);
        due(16, "vows stay", x.bell(3), 3);
        due(16, "what 2", x.hush(2), -2);
        due(16, "what -1", x.hush(-1), -2);
    }

    private static void councils() {
        BellOfLies x = town(0, 1, ALL, 0, 2, ALL, 0, 3, ALL);
        due(17, "none is needed", x.council(0, 3, 0), 0);
        due(17, "none is needed", x.council(0, 3, 1), 0);
        due(17, "two of three: the least bits", x.council(0, 1, 0), 3);
        due(17, "two", x.council(0, 1, 1), 2);
        due(17, "at the third hour only one lies", x.council(2, 0, 0), 4);
        due(17, "one", x.council(2, 0, 1), 1);
        due(17, "never four", x.council(0, 4, 0), -1);
        due(17, "never four", x.council(0, 4, 1), -1);
        x.put(0, 3, 1);
        due(17, "who is under a VOW is in no set", x.council(0, 1, 0), 2);
        due(17, "all that are left", x.council(0, 0, 0), 6);
        due(17, "three can't be with it", x.council(0, 3, 0), -1);
        due(17, "n 24", x.council(24, 0, 0), 0);
        int[][] bad = { { -1, 0, 0 }, { 25, 0, 0 }, { 0, -1, 0 }, { 0, 1000, 0 }, { 0, 0, -1 }, { 0, 0, 2 } };
        for (int[] b : bad) {
            due(17, "BAD", x.council(b[0], b[1], b[2]), -2);
        }
        due(17, "strokes 999", x.council(0, 999, 1), -1);
        x = ruledTown("lies 1;costs 0;strokes more;", 2, 0, ALL, 2, 0, ALL, 4, 0, ALL);
        due(17, "fewest: one of 4 ahead of two of 2", x.council(5, 4, 0), 4);
        due(17, "one", x.council(5, 4, 1), 1);
        x = ruledTown(FREE, 0, 0, ALL, 0, 0, ALL, 0, 0, ALL, 0, 0, ALL, 0, 0, ALL, 0, 0, ALL);
        due(17, "all six", x.council(0, 0, 0), 63);
        due(17, "six", x.council(0, 0, 1), 6);
        due(17, "five", x.council(24, 1, 0), 31);
    }

    private static void lessons() {
        BellOfLies x = ruledTown(FREE, 0, 0, 1);
        due(18, "one more", x.lesson(0, 0), 1);
        due(18, "two then", x.lesson(0, 1), 2);
        x.put(0, 2, ALL);
        due(18, "one less: the first", x.lesson(0, 0), 0);
        due(18, "23 then", x.lesson(0, 1), 23);
        due(18, "OWN stays", x.tells(0, 2), ALL);
        x = ruledTown("lies 1;costs 0;strokes hour;", 0, 0, 0, 0, 0, 32);
        x.clock(30);
        due(18, "the hour of the day", x.lesson(0, 0), 23);
        due(18, "with the other's 5", x.lesson(0, 1), 28);
        due(18, "none such, ahead of what", x.lesson(2, 9), -5);
        due(18, "none such", x.lesson(-1, 0), -5);
        due(18, "what", x.lesson(0, 2), -7);
        due(18, "what", x.lesson(0, -1), -7);
    }

    private static void pairs() {
        BellOfLies x = ruledTown(FREE, 0, 0, 7);
        due(19, "there are no two", x.pair(0), -1);
        due(19, "there are no two", x.pair(1), -1);
        due(19, "BAD, if there are no two, too", x.pair(2), -2);
        x.person(0, 0, 8);
        due(19, "two who never lie together", x.pair(0), 1);
        due(19, "in none", x.pair(1), 0);
        x.person(0, 0, 14);
        due(19, "0 and 2 in hours 1, 2", x.pair(0), 2);
        due(19, "two", x.pair(1), 2);
        x.person(50, 0, 0);
        due(19, "0 and 3 in three, 2 and 3 too", x.pair(0), 3);
        due(19, "three", x.pair(1), 3);
        x.put(0, 3, 1);
        due(19, "2 and 3", x.pair(0), 23);
        due(19, "BAD", x.pair(-1), -2);
    }

    private static void means() {
        BellOfLies x = town(0, 2, ALL);
        due(20, "2 by 3", x.mean(3, 0), 2);
        due(20, "2 by 3", x.mean(3, 1), 3);
        due(20, "2 by 4", x.mean(4, 0), 1);
        due(20, "2 by 4", x.mean(4, 1), 2);
        due(20, "1 by 1", x.mean(1, 0), 1);
        due(20, "1 by 1", x.mean(1, 1), 1);
        due(20, "2 by 48", x.mean(48, 1), 24);
        due(20, "0 by 48", new BellOfLies().mean(48, 0), 0);
        due(20, "0 by 48", new BellOfLies().mean(48, 1), 1);
        int[][] bad = { { 0, 0 }, { 49, 0 }, { -1, 0 }, { 1, -1 }, { 1, 2 } };
        for (int[] b : bad) {
            due(20, "NO", x.mean(b[0], b[1]), BellOfLies.NO);
        }
    }

    private static void shares() {
        BellOfLies x = town(0, 2, ALL, 0, 2, ALL, 0, 2, ALL);
        due(21, "none was told", x.share(0, 0), BellOfLies.NO);
        x.put(0, 1, 1);
        due(21, "1 of 1", x.share(0, 0), 1);
        due(21, "0 of 1", x.share(1, 0), 0);
        x.put(0, 1, 4);
        x.put(1, 1, 6);
        due(21, "4 of 10", x.share(0, 0), 2);
        due(21, "4 of 10", x.share(0, 1), 5);
        due(21, "0 of 10", x.share(2, 0), 0);
        due(21, "0 of 10", x.share(2, 1), 1);
        due(21, "none such", x.share(3, 0), BellOfLies.NO);
        due(21, "none such", x.share(-1, 0), BellOfLies.NO);
        due(21, "part", x.share(0, 2), BellOfLies.NO);
        due(21, "part", x.share(0, -1), BellOfLies.NO);
    }

    private static void judges() {
        BellOfLies x = ruledTown("lies 1;costs 0;strokes 10*hour;", 0, 0, ALL, 30, 9, 0);
        x.clock(5);
        due(22, "missing", x.judge(0), -11);
        due(22, "no sheet", x.judge(4), -2);
        due(22, "no sheet", x.judge(-1), -2);
        row(x, 0);
        due(22, "nothing told", x.judge(0), -1);
        row(x, 0, 50, 60, 70, 80);
        due(22, "all as told", x.judge(0), -1);
        x.cell(0, 2, 71);
        due(22, "the third is otherwise", x.judge(0), 2);
        x.cell(0, 0, 0);
        due(22, "the first is", x.judge(0), 0);
        x.film(1, 24);
        due(22, "24", x.judge(1), -1);
        x.sheet(1, 2, 25);
        due(22, "25", x.judge(1), -2);
        x.clock(0);
        rule(x, "lies 1;costs 0;strokes 99;");
        x.put(1, 2, ALL);
        x.strike();
        due(22, "297", x.bell(1), 297);
        x.sheet(2, 1, 1);
        x.cell(2, 0, 65536 + 297);
        due(22, "the lowest 16 bits", x.judge(2), -1);
        x.sheet(2, 0, 1);
        x.cell(2, 0, 297);
        due(22, "a byte can't be 297", x.judge(2), 0);
        x.put(1, 3, 1);
        x.cell(2, 0, 256 + 99);
        due(22, "the lowest 8 bits", x.judge(2), -1);
        x.put(1, 3, 0);
        rule(x, "lies 1;costs 0;strokes 50;");
        x.cell(2, 0, 150);
        due(22, "150 as a byte is below 0", x.judge(2), 0);
        due(22, "nothing changed", x.count(1), 1);
    }

    private static void kindsAndNerves() {
        BellOfLies x = ruledTown("lies nerve;costs 2;strokes 1;", 1, 3, 7);
        row(x, 0, 1, 1);
        due(23, "PERSON and LOVER", x.kinds(0, 0, 0), 3);
        row(x, 0, 1, 1, 1, 0);
        due(23, "a LOVER pays half", x.kinds(0, 0, 0), 2);
        row(x, 0, 1, 1, 0, 0);
        due(23, "PERSON", x.kinds(0, 0, 0), 1);
        due(23, "any MORE of a PERSON", x.kinds(0, 0, 1), 1023);
        row(x, 0, 1, 1, 1, 1);
        due(23, "none has so much nerve", x.kinds(0, 0, 0), 0);
        row(x, 0, 2, 2, 0, 0);
        due(23, "TRADER", x.kinds(0, 0, 0), 4);
        row(x, 0, 0, 2, 2, 0);
        due(23, "POET, whose lies need no nerve", x.kinds(0, 0, 0), 16);
        row(x, 0, 0, 0, 0, 0);
        due(23, "WAITING and MAD", x.kinds(0, 0, 0), 40);
        x = ruledTown(FREE, 11, 0, 0);
        row(x, 0, 0, 0, 0, 1);
        due(23, "a LOVER's hour 3", x.kinds(0, 0, 1), 8);
        row(x, 0, 0, 0, 0);
        due(23, "a LOVER's other hours", x.kinds(0, 0, 1), 1023 - 7);
        due(23, "it stays", x.tells(0, 4) * 10 + x.tells(0, 5), 11);
        x = town(0, 9, 15, 0, 2, ALL);
        row(x, 0, 2, 2, 1, 0);
        due(24, "NERVE 3", x.nerves(0, 0, 0), 1);
        due(24, "NERVE 3", x.nerves(0, 0, 1), 3);
        row(x, 0, 2, 2, 1);
        due(24, "NERVE 3 .. 99", x.nerves(0, 0, 0), 97);
        row(x, 0, 3);
        due(24, "none", x.nerves(0, 0, 0), 0);
        due(24, "none", x.nerves(0, 0, 1), -1);
        row(x, 0, 1);
        due(24, "NERVE 0", x.nerves(0, 0, 1), 0);
        row(x, 0);
        due(24, "any", x.nerves(0, 0, 0), 100);
        due(24, "it stays", x.tells(0, 0), 9);
        refusalsOfTold(x);
    }

    private static void refusalsOfTold(BellOfLies x) {
        x.sheet(1, 2, 25);
        int[] sheets = { -1, 4, 2, 1 };
        int[] want = { -2, -2, -11, -2 };
        for (int i = 0; i < sheets.length; i++) {
            due(22, "judge", x.judge(sheets[i]), want[i]);
            due(23, "kinds", x.kinds(sheets[i], 9, 9), want[i]);
            due(24, "nerves", x.nerves(sheets[i], 9, 9), want[i]);
            due(25, "turned", x.turned(sheets[i]), want[i]);
            due(26, "hours", x.hours(sheets[i]), want[i]);
            due(27, "laws", x.laws(sheets[i]), want[i]);
        }
        due(23, "none such", x.kinds(0, 2, 9), -5);
        due(23, "none such", x.kinds(0, -1, 0), -5);
        due(23, "sort", x.kinds(0, 0, 2), -7);
        due(23, "sort", x.kinds(0, 0, -1), -7);
        due(24, "none such", x.nerves(0, 2, 9), -5);
        due(24, "none such", x.nerves(0, -1, 0), -5);
        due(24, "what", x.nerves(0, 0, 2), -7);
        due(24, "what", x.nerves(0, 0, -1), -7);
    }

    private static void turnedHoursLaws() {
        BellOfLies x = ruledTown("lies 1;costs 0;strokes more;", 1, 0, ALL, 2, 0, ALL, 1, 0, ALL);
        x.put(1, 3, 1);
        row(x, 0, 1, 1);
        due(25, "0 or 2 under a VOW", x.turned(0), 5);
        row(x, 0, 4, 4);
        due(25, "1 under none", x.turned(0), 2);
        row(x, 0, 2, 2);
        due(25, "as it is: none", x.turned(0), 0);
        row(x, 0);
        due(25, "any", x.turned(0), 7);
        due(25, "VOWS stay", x.bell(3), 2);
        x = ruledTown(FREE, 0, 0, 1 + 32 + 64 + (1 << 23));
        x.clock(9999);
        row(x, 0, 1, 1, 0);
        due(26, "5, 6, no more; 23, 0, no more", x.hours(0), 32 + (1 << 23));
        row(x, 0);
        due(26, "any", x.hours(0), ALL);
        due(26, "HOUR stays", x.count(1), 9999);
        x = town(0, 2, ALL);
        read(x, FREE);
        read(x, "lies nerve;costs 2;strokes 1;");
        read(x, "lies nerve;costs 1;strokes 1;");
        row(x, 0, 1, 1, 0);
        due(27, "TEXTS 0, 3", x.laws(0), 9);
        row(x, 0, 1, 1, 1);
        due(27, "TEXT 1", x.laws(0), 2);
        row(x, 0, 5);
        due(27, "none", x.laws(0), 0);
        row(x, 0);
        due(27, "any", x.laws(0), 15);
        due(27, "THE LAW stays", x.count(4), 0);
    }

    private static void films() {
        BellOfLies x = ruledTown("lies 1;costs 0;strokes 99;", 0, 0, ALL, 30, 0, ALL);
        due(28, "no sheet", x.film(4, 3), -2);
        due(28, "no sheet, ahead of n", x.film(-1, 25), -2);
        due(28, "n 25", x.film(0, 25), -7);
        due(28, "n -1", x.film(0, -1), -7);
        due(28, "it is missing yet", x.judge(0), -11);
        x.sheet(0, 0, 40);
        due(28, "film", x.film(0, 24), 24);
        due(28, "it is so long", x.cell(0, 24, 0), -12);
        due(28, "ints: 297 is told", x.judge(0), -1);
        due(28, "nothing else changed", x.count(1) + x.count(2) + x.count(6), 0);
        x.sheet(1, 2, 2);
        due(28, "it is of ints", x.copy(0, 0, 1, 0, 2), 2);
        due(28, "99, 297", x.judge(1), -1);
        due(28, "film 0", x.film(0, 0), 0);
        due(28, "a row of none, not missing", x.cell(0, 0, 0), -12);
    }

    /** Lots of seed 0 are 48271, 182605794, ..: modulo 8 these are 7, 2, .. */
    private static void crowds() {
        int[] turns = turnsOf(0, 2);
        due(29, "the first lot of seed 0", turns[0], 7);
        due(29, "the second", turns[1], 182605794 % 8);
        BellOfLies x = crowdTown();
        int[] sums = new int[64];
        for (int seed = 0; seed < 64; seed++) {
            x = crowdTown();
            boolean[] vow = { false, true, false, false };
            int strikes = 0;
            int lies = 0;
            turns = turnsOf(seed, 48);
            for (int h = 0; h < 48; h++) {
                due(29, "STRIKES of " + h, x.drawn(seed, h, 0), strikes);
                due(29, "lies of " + h, x.drawn(seed, h, 1), lies);
                if (turns[h] < 4) {
                    vow[turns[h]] = !vow[turns[h]];
                }
                strikes += (vow[0] ? 0 : 1) + (vow[1] ? 0 : 2) + (vow[2] ? 0 : 4);
                lies += (vow[0] ? 0 : 1) + (vow[1] ? 0 : 1) + (vow[2] ? 0 : 1) + (vow[3] ? 0 : 1);
                sums[seed] = h == 11 ? strikes : sums[seed];
            }
        }
        due(29, "VOWS stay", x.bell(3), 2);
        due(29, "nothing passed", x.count(1), 0);
        odds(crowdTown(), sums);
        int[][] bad = { { -1, 0, 0 }, { 100000, 0, 0 }, { 0, -1, 0 }, { 0, 49, 0 }, { 0, 0, -1 }, { 0, 0, 2 } };
        for (int[] b : bad) {
            due(29, "BAD", x.drawn(b[0], b[1], b[2]), -2);
        }
        x = crowdTown();
        due(29, "the last seed", x.drawn(99999, 0, 0), 0);
        x.put(3, 1, 9999);
        due(29, "lies are told above 9999, too", x.drawn(0, 1, 1), 3);
    }

    private static BellOfLies crowdTown() {
        BellOfLies x = ruledTown("lies 1;costs 0;strokes more+1;", 0, 0, ALL, 1, 0, ALL, 3, 0, ALL, 57, 0, 0);
        x.put(1, 3, 1);
        return x;
    }

    private static void odds(BellOfLies x, int[] sums) {
        for (int least = 0; least <= 90; least += 6) {
            for (int seeds = 1; seeds <= 40; seeds += 13) {
                int so = 0;
                for (int k = 0; k < seeds; k++) {
                    so += sums[20 + k] >= least ? 1 : 0;
                }
                int by = 1;
                for (int d = 2; d <= seeds; d++) {
                    by = so % d == 0 && seeds % d == 0 ? d : by;
                }
                due(30, "above", x.odds(20, seeds, least, 0), so / by);
                due(30, "below", x.odds(20, seeds, least, 1), seeds / by);
            }
        }
        due(30, "they may pass 99999", x.odds(99999, 40, 0, 0), 1);
        int[][] bad = { { -1, 1, 0, 0 }, { 100000, 1, 0, 0 }, { 0, 0, 0, 0 }, { 0, 41, 0, 0 }, { 0, 1, -1, 0 },
            { 0, 1, 10000, 0 }, { 0, 1, 0, -1 }, { 0, 1, 0, 2 } };
        for (int[] b : bad) {
            due(30, "NO", x.odds(b[0], b[1], b[2], b[3]), BellOfLies.NO);
        }
        due(30, "least 9999", x.odds(0, 1, 9999, 0), 0);
    }

    private static void images() {
        BellOfLies x = town(3, 30, 1, 24, 20, ALL);
        due(32, "there is none", x.back(), -3);
        x.put(0, 3, 1);
        x.put(0, 1, 5);
        x.strike();
        due(31, "two", x.image(), 2);
        rule(x, FREE);
        x.put(0, 0, 1);
        x.put(0, 1, 2);
        x.put(0, 2, 3);
        x.put(0, 3, 0);
        x.put(1, 3, 1);
        x.person(55, 9, 9);
        x.put(2, 3, 1);
        x.strike();
        x.clock(500);
        x.sheet(3, 1, 4);
        x.feed(2, 1, 1, 1, 1, 1);
        for (int i = 0; i < 2; i++) {
            due(32, "two", x.back(), 2);
            due(32, "NERVE", x.tells(0, 0), 30);
            due(32, "TOLD", x.tells(0, 1), 5);
            due(32, "OWN", x.tells(0, 2), 1);
            due(32, "VOWS", x.bell(3), 1);
            due(32, "who came since is none", x.tells(2, 0), -5);
            due(32, "HOUR", x.count(1), 1);
            due(32, "TOLL", x.count(2), 5);
            due(32, "LAST", x.count(6), 5);
            due(32, "THE LAW", x.count(4), 0);
            due(32, "TEXTS stay", x.count(3), 2);
            due(32, "THE TAPE stays", x.count(5), 2);
            due(32, "SHEETS stay", x.cell(3, 3, 0), 1);
            due(8, "another comes", x.person(12, 3, 4), 2);
            due(32, "as one comes", x.tells(2, 3) + x.tells(2, 1), 0);
            due(32, "as one comes", x.tells(2, 4) * 10 + x.tells(2, 5), 12);
            x.strike();
            x.put(1, 0, 0);
        }
        due(31, "a later one", x.image(), 3);
        x.person(0, 0, 0);
        due(32, "as in the later one", x.back(), 3);
        due(32, "NERVE", x.tells(1, 0), 0);
        x = new BellOfLies();
        due(31, "of nobody", x.image(), 0);
        x.person(0, 0, 0);
        due(32, "nobody", x.back(), 0);
    }

    private static void sheets() {
        BellOfLies x = new BellOfLies();
        int[][] bad = { { -1, 0, 1 }, { 4, 0, 1 }, { 0, -2, 1 }, { 0, 3, 1 }, { 0, 0, 41 }, { 4, -1, 0 }, { 4, 0, -1 } };
        for (int[] b : bad) {
            due(33, "BAD", x.sheet(b[0], b[1], b[2]), -2);
        }
        due(33, "a size below 0", x.sheet(0, 2, -1), -14);
        due(33, "a size below 0", x.sheet(0, 0, Integer.MIN_VALUE), -14);
        due(33, "still missing", x.cell(0, 0, 0), -11);
        for (int s = 0; s < 4; s++) {
            for (int sort = 0; sort < 3; sort++) {
                due(33, "sheet", x.sheet(s, sort, 40), 1);
                due(34, "cell", x.cell(s, 39, 7), 1);
                due(34, "outside", x.cell(s, 40, 7), -12);
                due(34, "outside", x.cell(s, -1, 7), -12);
                due(33, "sheet of none", x.sheet(s, sort, 0), 1);
                due(34, "outside", x.cell(s, 0, 7), -12);
            }
            due(33, "a missing one has any n", x.sheet(s, -1, s % 2 == 0 ? -9 : 99), 1);
            due(34, "missing", x.cell(s, 0, 7), -11);
            due(34, "missing, ahead of outside", x.cell(s, -1, 7), -11);
        }
        due(34, "no sheet", x.cell(4, 0, 7), -2);
        due(34, "no sheet", x.cell(-1, 0, 7), -2);
        row(x, 0, 7, 7);
        x.sheet(0, 2, 2);
        due(33, "all 0", x.judge(0), -1);
    }

    private static void copies() {
        BellOfLies x = ruledTown("lies 1;costs 0;strokes more+hour;", 1, 0, ALL);
        row(x, 0, 1, 2, 3, 4, 5);
        x.sheet(1, 2, 3);
        due(35, "copy", x.copy(0, 0, 1, 0, 3), 3);
        due(35, "as they were", x.judge(1), -1);
        due(35, "the other too", x.judge(0), -1);
        row(x, 2, 9, 9, 1, 2, 3, 4);
        due(35, "down in its own row", x.copy(2, 2, 2, 0, 4), 4);
        due(35, "1 2 3 4 3 4", x.judge(2), 4);
        row(x, 2, 1, 1, 2, 3, 4, 9);
        due(35, "up in its own row", x.copy(2, 1, 2, 2, 4), 4);
        x.cell(2, 1, 2);
        due(35, "1 2 1 2 3 4", x.judge(2), 2);
        x.clock(1);
        x.cell(2, 0, 2);
        x.copy(2, 5, 2, 1, 1);
        due(35, "2 4 ..", x.judge(2), 1);
        due(35, "none of them", x.copy(0, 5, 1, 3, 0), 0);
        int[][] out = { { 0, -1, 1, 0, 1 }, { 0, 0, 1, -1, 1 }, { 0, 0, 1, 0, -1 }, { 0, 0, 1, 0, 4 }, { 0, 3, 1, 0, 3 },
            { 0, 6, 1, 0, 0 }, { 0, 0, 1, 4, 0 }, { 0, Integer.MAX_VALUE, 1, 0, Integer.MAX_VALUE },
            { 0, 1, 1, 1, Integer.MAX_VALUE }, { 0, 0, 1, Integer.MIN_VALUE, 1 } };
        for (int[] o : out) {
            due(35, "outside", x.copy(o[0], o[1], o[2], o[3], o[4]), -12);
        }
        x.sheet(3, 1, 5);
        due(35, "unlike", x.copy(0, 0, 3, 0, -1), -13);
        due(35, "unlike", x.copy(3, 9, 0, 0, 1), -13);
        x.sheet(3, -1, 0);
        due(35, "missing", x.copy(0, -1, 3, 0, 1), -11);
        due(35, "missing", x.copy(3, 0, 0, 0, 1), -11);
        due(35, "missing both", x.copy(3, 0, 3, 0, 0), -11);
        due(35, "no sheet", x.copy(4, 0, 3, 0, 1), -2);
        due(35, "no sheet", x.copy(3, 0, -1, 0, 1), -2);
        x.sheet(3, 0, 1);
        x.sheet(1, 0, 1);
        x.cell(1, 0, 258);
        due(35, "bytes to bytes", x.copy(1, 0, 3, 0, 1), 1);
        due(35, "2, at hour 1", x.judge(3), -1);
    }

    private static void townsBySheets() {
        BellOfLies x = new BellOfLies();
        row(x, 0, 99, 12, 30, 7, 60, 0, 0, 59, 99, ALL, 5);
        int[][] bad = { { -1, 2, 0, 1 }, { 4, 2, 0, 1 }, { 0, -1, 0, 1 }, { 0, 3, 0, 1 }, { 0, 2, 0, -1 }, { 0, 2, 0, 7 } };
        for (int[] b : bad) {
            due(36, "BAD", x.townBy(b[0], b[1], b[2], b[3]), -2);
        }
        due(36, "missing", x.townBy(1, 2, 0, 1), -11);
        due(36, "missing, ahead of its sort", x.townBy(1, 0, -1, 1), -11);
        due(36, "of another sort", x.townBy(0, 1, -1, 1), -13);
        due(36, "none of them", x.townBy(0, 2, 0, 0), 0);
        due(36, "none of them, from anywhere", x.townBy(0, 2, -1, 0), 0);
        due(36, "outside", x.townBy(0, 2, -1, 1), -12);
        due(36, "outside", x.townBy(0, 2, 9, 1), -12);
        due(36, "outside", x.townBy(0, 2, Integer.MAX_VALUE, 1), -12);
        due(36, "nobody came", x.count(0), 0);
        due(36, "two of three", x.townBy(0, 2, 1, 3), 2);
        due(36, "KIND, MORE", x.tells(0, 4) * 10 + x.tells(0, 5), 12);
        due(36, "NERVE", x.tells(0, 0), 30);
        due(36, "OWN", x.tells(0, 2), 7);
        due(36, "KIND, MORE", x.tells(1, 4) * 10 + x.tells(1, 5), 59);
        due(36, "what stood ahead came", x.townBy(0, 2, 1, 4), -12);
        due(36, "four", x.count(0), 4);
        x.sheet(2, 0, 18);
        due(36, "of bytes: two have room", x.townBy(2, 0, 0, 6), 2);
        due(36, "none has room", x.townBy(2, 0, 0, 6), 0);
        due(36, "outside, none having room, too", x.townBy(2, 0, 1, 6), -12);
        x = new BellOfLies();
        x.sheet(0, 0, 6);
        x.cell(0, 2, 128);
        x.cell(0, 5, 127);
        due(36, "128 as a byte is below 0", x.townBy(0, 0, 0, 2), 1);
        due(36, "OWN", x.tells(0, 2), 127);
        x.sheet(0, 1, 6);
        x.cell(0, 2, 32768);
        x.cell(0, 5, 32767);
        due(36, "32768 as a short is below 0", x.townBy(0, 1, 0, 2), 1);
        due(36, "OWN", x.tells(1, 2), 32767);
    }

    private static void takens() {
        BellOfLies x = town(0, 0, 1, 10, 0, 2, 20, 0, 4, 30, 0, 8, 40, 0, 16, 50, 0, ALL);
        int[] isA = { 1, 1 + 2, 1 + 4, 1 + 2 + 8, 1 + 4 + 16, 1 + 32 };
        for (int p = 0; p < 6; p++) {
            for (int k = 0; k < 6; k++) {
                due(37, "taken(" + p + ", " + k + ")", x.taken(p, k), (isA[p] >> k & 1) == 1 ? p : -13);
                due(37, "OWN HOURS are of no KIND", x.taken(6 + p, k), -13);
            }
            due(37, "one is not OWN HOURS", x.taken(p, 6), -13);
            due(37, "OWN", x.taken(6 + p, 6), x.tells(p, 2));
        }
        x = town(0, 0, 9);
        due(37, "BAD, ahead of i", x.taken(12, 7), -2);
        due(37, "BAD", x.taken(0, -1), -2);
        due(37, "outside", x.taken(12, 6), -12);
        due(37, "outside", x.taken(-1, 0), -12);
        due(37, "none such", x.taken(1, 0), -11);
        due(37, "none such, ahead of the KIND", x.taken(5, 6), -11);
        due(37, "none such", x.taken(7, 6), -11);
        due(37, "none such, ahead of the KIND", x.taken(11, 0), -11);
        due(37, "OWN", x.taken(6, 6), 9);
    }
}

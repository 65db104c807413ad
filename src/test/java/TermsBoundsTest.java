/** Each sentence of the document's Terms that names a bound: its last value and the first beyond it, on each side. */
public final class TermsBoundsTest extends Answers {
    public static void main(String[] args) {
        hourBegins();
        hourInThought();
        hourOfTheDay();
        toll();
        last();
        peopleByNumbers();
        kindsWithMore();
        asOneComes();
        ownHours();
        personLies();
        loverLies();
        loverCosts();
        traderStrokes();
        traderCosts();
        waitingLies();
        waitingStrokes();
        poetStrokes();
        poetLies();
        mad();
        asTheKindAbove();
        underAVow();
        tape();
        tokensAsLongAsCanBe();
        words();
        numbers();
        bytesOfTokens();
        blanks();
        textsParts();
        eitherAndBoth();
        comparison();
        sumsAndTerms();
        names();
        wrappingInts();
        truth();
        faultAtTheEnd();
        faultAtAToken();
        fiveOpenSigns();
        fiveOpenTillTheyEnd();
        textsByNumbers();
        textZero();
        whatALawSays();
        namesOfOne();
        strikesOfAll();
        toldAhead();
        nerveLessens();
        toldGrows();
        hourGoesBy();
        theDay();
        crowdsBySeeds();
        crowdsTurnVows();
        lots();
        imageKeeps();
        sheetsBegin();
        sheetsOfSorts();
        refusalsFirstTold();
        refusalsAheadOfAnswers();
        finish();
    }

    // ---- HOUR, TOLL, LAST, PEOPLE

    private static void hourBegins() {
        sentence("Terms", "HOUR (0 .. 9999; 0 at first");
        BellOfLies x = new BellOfLies();
        due("HOUR", x.count(1), 0);
        due("clock(-1)", x.clock(-1), BAD);
        due("clock(0)", x.clock(0), 0);
        due("clock(9999)", x.clock(9999), 0);
        due("clock(10000)", x.clock(10000), BAD);
        due("HOUR", x.count(1), 9999);
    }

    /** 9999 is hour 15 of the day, 10000 hour 16. */
    private static void hourInThought() {
        sentence("Terms", "in thought it may pass 9999)");
        BellOfLies x = ruledTown(FREE, 0, 0, at(16), 0, 0, at(16));
        x.clock(9999);
        due("STRIKES at 9999", x.bell(1), 0);
        due("run(1, 1)", x.run(1, 1), 2);
        due("run(1, 2)", x.run(1, 2), 3);
        due("run(48, 20)", x.run(48, 20), 2);
        due("when(2)", x.when(2), 1);
        due("dial(4)", x.dial(4), 1);
        due("hush(1)", x.hush(1), 1);
        due("council(1, 0, 0)", x.council(1, 0, 0), 3);
        due("lesson(0, 1)", x.lesson(0, 1), 3);
        due("pair(1)", x.pair(1), 1);
        due("mean(48, 1)", x.mean(48, 1), 12);
        due("film(0, 24)", x.film(0, 24), 24);
        due("judge(0)", x.judge(0), -1);
        due("hours(0)", x.hours(0), at(15));
        due("turned(0)", x.turned(0), 0);
        due("laws(0)", x.laws(0), 2);
        due("drawn(0, 2, 0): lots 7, 2", x.drawn(0, 2, 0), 2);
        due("odds(0, 1, 0, 0)", x.odds(0, 1, 0, 0), 1);
        due("HOUR is as it was", x.count(1), 9999);
    }

    private static void hourOfTheDay() {
        sentence("Terms", "of the day: modulo 24");
        int[] hours = { 0, 1, 23, 24, 25, 47, 48, 9983, 9984, 9998, 9999 };
        int[] ofDay = { 0, 1, 23, 0, 1, 23, 0, 23, 0, 14, 15 };
        for (int i = 0; i < hours.length; i++) {
            BellOfLies x = ruledTown("lies 1;costs 0;strokes hour;", 0, 0, ALL, 50, 0, 0);
            x.clock(hours[i]);
            due("the text's hour at " + hours[i], x.asks(2, 1), ofDay[i]);
            for (int h = 0; h < 24; h++) {
                x.put(0, 2, at(h));
                due("OWN of hour " + h + " at " + hours[i], x.bell(0), h == ofDay[i] ? 3 : 2);
            }
        }
        BellOfLies x = ruledTown("lies 1;costs 0;strokes hour;", 0, 0, ALL);
        x.clock(23);
        due("run(1, 1) wraps around", x.run(1, 1), 0);
        due("run(2, 0): 23 and 0", x.run(2, 0), 23);
    }

    /** Six who give 198 each can't give 999999 by 512 calls: what holds is that no lesser bound is in the way. */
    private static void toll() {
        sentence("Terms", "TOLL: how many strokes there were (0 .. 999999; 0 at first)");
        BellOfLies x = new BellOfLies();
        due("TOLL at first", x.count(2), 0);
        due("strike of nobody", x.strike(), 0);
        due("TOLL", x.count(2), 0);
        x = townAfter(99, "lies 1;costs 0;strokes 99;", 30, 0, ALL, 30, 0, ALL, 30, 0, ALL, 30, 0, ALL, 30, 0, ALL);
        int toll = 99;
        for (int h = 0; h < 120; h++) {
            due("TOLL behind " + h, x.count(2), toll);
            due("strike", x.strike(), 990);
            toll += 990;
        }
        due("TOLL above 99, 9999, 65535, 99999", x.bell(2), 118899);
    }

    private static void last() {
        sentence("Terms", "LAST: how many it gave last (0 .. 99; 0 at first)");
        due("LAST at first", new BellOfLies().count(6), 0);
        int[] strokes = { 0, 1, 89, 90, 91 };
        int[] want = { 9, 10, 98, 99, 99 };
        for (int i = 0; i < strokes.length; i++) {
            BellOfLies x = ruledTown("lies hour=0;costs 0;strokes " + strokes[i] + ";", 29, 0, ALL);
            due("strike", x.strike(), strokes[i] + 9);
            due("LAST of " + (strokes[i] + 9), x.count(6), want[i]);
            due("a silent hour", x.strike(), 0);
            due("LAST then", x.count(6), 0);
        }
        BellOfLies x = ruledTown("lies 1;costs 0;strokes 99*(hour=0)+(last-50)*(hour=1);", 29, 0, ALL);
        due("LAST in thought: 108, then 99 - 50 + 9", x.run(1, 1), 58);
    }

    private static void peopleByNumbers() {
        sentence("Terms", "PEOPLE are numbered from 0 on, 6 at most");
        BellOfLies x = new BellOfLies();
        for (int p = 0; p < 6; p++) {
            due("PEOPLE", x.count(0), p);
            due("tells of the next one", x.tells(p, 0), NO_PERSON);
            due("person", x.person(0, p, 0), p);
            due("tells", x.tells(p, 0), p);
        }
        due("a seventh", x.person(0, 6, 0), FULL);
        due("PEOPLE", x.count(0), 6);
        due("tells(6, 0)", x.tells(6, 0), NO_PERSON);
        due("tells(-1, 0)", x.tells(-1, 0), NO_PERSON);
    }

    private static void kindsWithMore() {
        sentence("Terms", "of a KIND, with MORE (0 .. 9)");
        for (int kind = 0; kind < 6; kind++) {
            BellOfLies x = town(10 * kind, 0, 0, 10 * kind + 9, 0, 0);
            for (int p = 0; p < 2; p++) {
                due("KIND", x.tells(p, 4), kind);
                due("MORE", x.tells(p, 5), 9 * p);
                due("taken", x.taken(p, kind), p);
            }
        }
        BellOfLies x = new BellOfLies();
        due("MORE below 0 of KIND 0", x.person(-1, 0, 0), BAD);
        due("KIND 6", x.person(60, 0, 0), BAD);
    }

    private static void asOneComes() {
        sentence("Terms", "NERVE (0 .. 99), TOLD: how many lies (0 .. 9999; 0 as one comes)");
        BellOfLies x = ruledTown(FREE, 0, 0, ALL, 0, 99, ALL);
        x.image();
        due("person", x.person(0, 0, ALL), 2);
        due("NERVE 0", x.tells(2, 0), 0);
        due("NERVE 99", x.tells(1, 0), 99);
        due("TOLD", x.tells(2, 1), 0);
        x.put(2, 1, 9999);
        x.put(2, 3, 1);
        due("back", x.back(), 2);
        due("another one comes there", x.person(0, 99, 0), 2);
        due("TOLD, 0 as one comes", x.tells(2, 1), 0);
        sentence("Terms", "under a VOW or not (not, as one comes)");
        due("VOW", x.tells(2, 3), 0);
        due("VOWS", x.bell(3), 0);
        x.sheet(0, 0, 3);
        x.put(2, 3, 1);
        x.put(2, 1, 7);
        x.back();
        due("townBy", x.townBy(0, 0, 0, 1), 1);
        due("VOW of one by a SHEET", x.tells(2, 3), 0);
        due("TOLD of one by a SHEET", x.tells(2, 1), 0);
    }

    private static void ownHours() {
        sentence("Terms", "OWN: HOURS of the day (bits 0 .. 23)");
        BellOfLies x = ruledTown(FREE, 0, 0, 0, 0, 0, ALL, 0, 0, 1, 0, 0, 1 << 23);
        int[] who = { 2 + 4, 2, 2, 2 + 8, 2 + 4 };
        int[] hours = { 0, 1, 22, 23, 24 };
        for (int i = 0; i < hours.length; i++) {
            x.clock(hours[i]);
            due("who LIES at " + hours[i], x.bell(0), who[i]);
        }
        due("bit 24", x.person(0, 0, 1 << 24), BAD);
        due("bit 31", x.person(0, 0, LEAST), BAD);
    }

    // ---- KINDS

    private static void personLies() {
        sentence("Terms", "0 PERSON: if it says so, and the HOUR is of OWN; that; that.");
        int[] costs = { -99, -1, 0, 1, 99 };
        for (int c : costs) {
            BellOfLies x = ruledTown("lies hour;costs " + c + ";strokes 49+" + c + ";", 9, 50, at(0, 1, 23));
            due("says 0 at hour 0", x.tells(0, 6), 0);
            x.clock(1);
            due("says 1 at hour 1", x.tells(0, 6), 1);
            x.clock(2);
            due("says 2 at hour 2, not of OWN", x.tells(0, 6), 0);
            x.clock(23);
            due("says 23 at hour 23", x.tells(0, 6), 1);
            due("costs", x.tells(0, 7), 1000 + c);
            due("strokes", x.tells(0, 8), Math.max(0, Math.min(99, 49 + c)));
        }
    }

    private static void loverLies() {
        sentence("Terms", "LIES, if it says so, and the HOUR is of OWN or the HOUR of the day modulo 12 is MORE");
        for (int more = 0; more < 10; more++) {
            BellOfLies x = ruledTown(FREE, 10 + more, 0, 0);
            for (int hour = 0; hour <= 48; hour++) {
                x.clock(hour);
                due("MORE " + more + " at " + hour, x.tells(0, 6), hour % 12 == more ? 1 : 0);
            }
            x.clock(9996 + more - 9);
            due("late, MORE " + more, x.tells(0, 6), 0);
        }
        BellOfLies x = ruledTown("lies 0;costs 0;strokes 1;", 10, 0, ALL);
        due("it doesn't say so", x.tells(0, 6), 0);
        x = ruledTown(FREE, 11, 0, at(10, 11, 22, 23));
        int[] hours = { 10, 11, 22, 23, 12, 13, 0, 1 };
        int[] want = { 1, 1, 1, 1, 0, 1, 0, 1 };
        for (int i = 0; i < hours.length; i++) {
            x.clock(hours[i]);
            due("OWN or MORE 1 at " + hours[i], x.tells(0, 6), want[i]);
        }
    }

    private static void loverCosts() {
        sentence("Terms", "COSTS half (cut toward 0)");
        int[] says = { -99, -98, -3, -2, -1, 0, 1, 2, 3, 98, 99 };
        int[] half = { -49, -49, -1, -1, 0, 0, 0, 1, 1, 49, 49 };
        for (int i = 0; i < says.length; i++) {
            BellOfLies x = ruledTown("lies 1;costs " + says[i] + ";strokes 7;", 10, 50, ALL, 32, 50, ALL);
            due("half of " + says[i], x.tells(0, 7), 1000 + half[i]);
            due("a WAITING's half of " + says[i], x.tells(1, 7), 1000 + half[i]);
            due("strokes as a PERSON", x.tells(0, 8), 7);
            due("NERVE behind an hour", x.run(1, 10), Math.max(0, Math.min(99, 50 - half[i])));
        }
    }

    private static void traderStrokes() {
        sentence("Terms", "2 TRADER (a PERSON): STROKES MORE more");
        for (int more = 0; more < 10; more++) {
            due("MORE " + more, ruledTown("lies 1;costs 0;strokes 0;", 20 + more, 0, ALL).bell(1), more);
        }
        due("above the text's bound", ruledTown("lies 1;costs 0;strokes 100;", 29, 0, ALL).bell(1), 108);
        due("above the text's least", ruledTown("lies 1;costs 0;strokes -5;", 23, 0, ALL).bell(1), 3);
    }

    private static void traderCosts() {
        sentence("Terms", "COSTS 0, if LAST is 5 or more, else as a PERSON");
        int[] lasts = { 0, 4, 5, 6, 99 };
        for (int last : lasts) {
            BellOfLies x = townAfter(last, "lies 1;costs 7;strokes 1;", 20, 50, ALL, 49, 50, ALL, 0, 50, ALL, 10, 50, ALL);
            due("a TRADER at LAST " + last, x.tells(0, 7), last < 5 ? 1007 : 1000);
            due("a POET at LAST " + last, x.tells(1, 7), last < 5 ? 1007 : 1000);
            due("a PERSON at LAST " + last, x.tells(2, 7), 1007);
            due("a LOVER at LAST " + last, x.tells(3, 7), 1003);
            due("a TRADER's NERVE", x.run(1, 10), last < 5 ? 43 : 50);
        }
    }

    private static void waitingLies() {
        sentence("Terms", "3 WAITING (a LOVER): LIES as a LOVER, but not if LAST is MORE or less");
        for (int more = 0; more < 10; more++) {
            for (int last = Math.max(0, more - 1); last <= more + 1; last++) {
                BellOfLies x = townAfter(last, FREE, 30 + more, 0, ALL, 30 + more, 0, 0);
                x.clock(more);
                due("MORE " + more + ", LAST " + last, x.bell(0), last > more ? 3 : 0);
                x.clock(more + 1);
                due("MORE " + more + ", LAST " + last + ", an hour later", x.bell(0), last > more ? 1 : 0);
                x.clock(more + 12);
                due("MORE " + more + ", LAST " + last + ", 12 hours later", x.bell(0), last > more ? 3 : 0);
            }
        }
        BellOfLies x = townAfter(99, "lies 0;costs 0;strokes 1;", 39, 0, ALL);
        due("LAST 99, but it doesn't say so", x.bell(0), 0);
    }

    private static void waitingStrokes() {
        sentence("Terms", "STROKES twice");
        int[] says = { -1, 0, 1, 98, 99, 100 };
        int[] twice = { 0, 0, 2, 196, 198, 198 };
        for (int i = 0; i < says.length; i++) {
            BellOfLies x = ruledTown("lies 1;costs 0;strokes " + says[i] + ";", 39, 0, ALL);
            due("twice " + says[i], x.tells(0, 8), twice[i]);
        }
    }

    private static void poetStrokes() {
        sentence("Terms", "4 POET (a TRADER): STROKES 0, if the HOUR of the day modulo 3 is 0, else as a TRADER");
        BellOfLies x = ruledTown("lies 0;costs 0;strokes 11;", 42, 0, ALL);
        for (int hour = 0; hour <= 49; hour++) {
            x.clock(hour);
            due("at " + hour, x.bell(1), hour % 3 == 0 ? 0 : 13);
        }
        x.clock(9999);
        due("at 9999: hour 15", x.bell(1), 0);
        due("at 10000: hour 16", x.run(1, 1), 13);
    }

    private static void poetLies() {
        sentence("Terms", "LIES, if the HOUR is of OWN.");
        String[] says = { "0", "1", "-1" };
        for (String s : says) {
            BellOfLies x = ruledTown("lies " + s + ";costs 0;strokes 1;", 41, 0, at(0, 23));
            int[] hours = { 0, 1, 13, 22, 23, 24 };
            int[] want = { 1, 0, 0, 0, 1, 1 };
            for (int i = 0; i < hours.length; i++) {
                x.clock(hours[i]);
                due("says " + s + ", at " + hours[i], x.tells(0, 6), want[i]);
            }
        }
    }

    private static void mad() {
        sentence("Terms", "5 MAD (a PERSON): LIES always; STROKES 0.");
        BellOfLies x = ruledTown("lies 0;costs 2;strokes 99;", 59, 1, 0);
        for (int hour = 0; hour < 48; hour++) {
            x.clock(hour);
            due("LIES at " + hour, x.tells(0, 6), 1);
            due("STROKES at " + hour, x.tells(0, 8), 0);
        }
        due("strike", x.strike(), 0);
        due("COSTS as of a PERSON: no NERVE is left", x.tells(0, 0), 0);
        due("LIES without NERVE", x.bell(0), 1);
        due("TOLD", x.tells(0, 1), 1);
    }

    private static void asTheKindAbove() {
        sentence("Terms", "(Whatever isn't told is as of the KIND above.");
        BellOfLies x = townAfter(6, "lies 1;costs -9;strokes 5;", 14, 50, 0, 24, 50, at(1), 34, 50, at(1), 44, 50, at(1), 54, 50, 0);
        x.clock(1);
        int[] lies = { 0, 1, 1, 1, 1 };
        int[] costs = { -4, 0, -4, 0, -9 };
        int[] strokes = { 5, 9, 10, 9, 0 };
        for (int p = 0; p < 5; p++) {
            due("LIES of KIND " + (p + 1), x.tells(p, 6), lies[p]);
            due("COSTS of KIND " + (p + 1), x.tells(p, 7), 1000 + costs[p]);
            due("STROKES of KIND " + (p + 1), x.tells(p, 8), strokes[p]);
        }
    }

    private static void underAVow() {
        sentence("Terms", "Who is under a VOW never LIES.)");
        BellOfLies x = townAfter(99, FREE, 1, 9, ALL, 11, 9, ALL, 21, 9, ALL, 31, 9, ALL, 51, 9, ALL);
        x.clock(1);
        due("without VOWS all but the teller LIE", x.bell(0), 31);
        for (int p = 0; p < 5; p++) {
            x.put(p, 3, 1);
            due("VOW of " + p, x.tells(p, 6), 0);
            due("the others LIE", x.bell(0), 31 - (1 << p));
            x.put(p, 3, 0);
        }
        x.put(5, 3, 0);
        due("all six", x.bell(0), 63);
        x = town(41, 9, ALL);
        x.put(0, 3, 1);
        due("a POET", x.bell(0), 0);
        due("it strikes not", x.run(48, 0), 0);
        due("it tells not", x.run(48, 20), 0);
    }

    // ---- texts

    private static void tape() {
        sentence("Terms", "A TEXT is read from THE TAPE (160 bytes at most).");
        String text = "lies 1;costs 0;strokes 9;";
        BellOfLies x = new BellOfLies();
        due("160 bytes are a TEXT", read(x, " ".repeat(135) + text), 1);
        due("159 bytes", read(x, " ".repeat(134) + text), 2);
        feedAll(x, " ".repeat(136) + text.substring(0, 24));
        due("the 161st", x.feed(1, ';', 0, 0, 0, 0), FULL);
        due("160 without the last sign", x.text(), -260);
        x = new BellOfLies();
        String longest = "lies " + "1+".repeat(67) + "1;costs 0;strokes 1;";
        due("a long sum of " + longest.length(), read(x, longest), 1);
        x.person(0, 0, 0);
        x.force(1);
        due("what it says", x.asks(0, 0), 68);
    }

    private static void marked(String... texts) {
        for (String marked : texts) {
            int at = marked.indexOf('^');
            String text = marked.substring(0, at) + marked.substring(at + 1);
            BellOfLies x = new BellOfLies();
            due("the FAULT of " + marked, read(x, text), -100 - at);
            due("THE TAPE behind it", x.count(5), 0);
            due("TEXTS behind it", x.count(3), 1);
        }
    }

    private static void good(String... texts) {
        for (String text : texts) {
            due(text, read(new BellOfLies(), text), 1);
        }
    }

    /** What a text's sum says of the first of the people, within -99 .. 99. */
    private static void says(int want, String sum) {
        BellOfLies x = ruledTown("lies 1;costs " + sum + ";strokes 1;", 7, 50, 0);
        due(sum, x.asks(1, 0), want);
    }

    private static void tokensAsLongAsCanBe() {
        sentence("Terms", "TOKENS, each as long as can be");
        good("lies1;costs1;strokes1;", "lies 1or 0and 1;costs(1)*nerve;strokes not(1);", "lies 1234;costs 1;strokes 1;");
        marked("^liesnerve;costs 1;strokes 1;", "lies 1 ^ornot 1;", "lies 1or0;^", "lies ^nott 1;",
            "lies ^nervetold;", "lies 123^nerve;", "lies nerve^1;", "lies ^12345;", "lies ^notnerve;", "lies ^1234567890;");
    }

    private static void words() {
        sentence("Terms", "WORDS (as many letters a .. z as stand there)");
        for (char c = 'a'; c <= 'z'; c++) {
            marked("lies ^nerve" + c + ";", "lies ^" + c + "nerve;", "lies ^" + c + ";", "^lies" + c + " 1;", "^" + c + "lies 1;");
        }
        String[] places = { "^lies 1;", "lies 1;^costs 1;", "lies 1;costs 1;^strokes 1;", "lies 1 ^or 1;", "lies 1 ^and 1;", "lies ^not 1;", "lies ^nerve;",
            "lies ^told;", "lies ^hour;", "lies ^last;", "lies ^people;", "lies ^more;" };
        for (String place : places) {
            for (int i = place.indexOf('^') + 1; Character.isLetter(place.charAt(i)); i++) {
                marked(place.substring(0, i) + (char) ('a' + (place.charAt(i) - 'a' + 1) % 26) + place.substring(i + 1), place.substring(0, i) + "z" + place.substring(i + 1));
            }
        }
        marked("lies nerve^A;", "lies nerve^Z;", "lies nerve^`;", "lies nerve^{;", "lies ^Nerve;", "lies ^NERVE;", "^Lies 1;", "lies ^ner ve;");
    }

    private static void numbers() {
        sentence("Terms", "NUMBERS (as many digits as stand there; more than 4 are too long)");
        says(0, "0");
        says(9, "0009");
        says(1, "9999-9998");
        says(0, "0000");
        says(-99, "-9999");
        marked("lies ^00000;", "lies ^10000;", "lies ^99999;", "lies 1 ^12345;", "lies 1+^00001;", "lies 1234 ^5;", "lies ^" + "1".repeat(100));
        for (char c = '0'; c <= '9'; c++) {
            good("lies 000" + c + ";costs " + c + ";strokes 1;");
            marked("lies ^1234" + c + ";", "lies ^" + c + "0000;");
        }
        marked("lies 1^/;", "lies 1^:;");
    }

    /** Each of the 256 bytes behind a number and ahead of a sign. */
    private static void bytesOfTokens() {
        sentence("Terms", "SIGNS ( ) ; + - * < = ; blanks (32, 10) may stand between");
        for (int b = 0; b < 256; b++) {
            boolean blankOrDigit = b == 32 || b == 10 || b >= '0' && b <= '9';
            boolean goesOn = b == ';' || b == '+' || b == '-' || b == '*' || b == '<' || b == '=';
            BellOfLies x = new BellOfLies();
            feedAll(x, "lies 1");
            due("feed", x.feed(1, b, 0, 0, 0, 0), 7);
            due("byte " + b, read(x, ";costs 1;strokes 1;"), blankOrDigit ? 1 : goesOn ? -107 : -106);
        }
        says(5, "(2)+(3)");
        says(-1, "2-3");
        says(6, "2*3");
        says(1, "2<3");
        says(1, "3=3");
    }

    private static void blanks() {
        sentence("Terms", "blanks (32, 10) may stand between");
        good("lies 1;costs 1;strokes 1;", " \n lies\n1 \n;costs  1 ; \nstrokes\n\n1\n;\n \n", "lies(1)*2;costs-1;strokes 1 <2;",
            "\nlies 1;costs 1;strokes 1;", "lies 1;costs 1;strokes 1; ");
        marked("lies 1^\t;", "lies 1^\r;", "lies 1^\u000b;", "lies 1^\u001f;", "lies 1^!;", "lies 1^\u00a0;", "lies 1^\u0000;", "^li es 1;", "lies 1 ^1;");
    }

    private static void textsParts() {
        sentence("Terms", "TEXT: lies E ; costs E ; strokes E ;");
        good("lies 1;costs 2;strokes 3;");
        marked("^", "^;", "^costs 1;lies 1;strokes 1;", "lies ^;costs 1;strokes 1;", "lies 1 ^costs 1;", "lies 1;^strokes 1;", "lies 1;^lies 1;",
            "lies 1;costs ^;", "lies 1;costs 1;^lies 1;", "lies 1;costs 1;strokes ^;", "lies 1;costs 1;strokes 1^", "lies 1;costs 1;strokes 1;^;",
            "lies 1;costs 1;strokes 1;^lies 1;costs 1;strokes 1;", "lies 1;costs 1;strokes 1; ^1", "lies 1;costs 1;strokes 1;^\u00ff");
        BellOfLies x = ruledTown("lies 11;costs 22;strokes 33;", 0, 0, 0);
        due("lies", x.asks(0, 0), 11);
        due("costs", x.asks(1, 0), 22);
        due("strokes", x.asks(2, 0), 33);
    }

    private static void eitherAndBoth() {
        sentence("Terms", "E: AND { or AND }. AND: NOT { and NOT }.");
        says(1, "0 or 0 or 0 or 0 or 0 or 0 or 0 or 1");
        says(0, "1 and 1 and 1 and 1 and 1 and 1 and 1 and 0");
        says(1, "1 or 1 and 0");
        says(0, "(1 or 1) and 0");
        says(1, "0 and 0 or 1");
        says(0, "0 and (0 or 1)");
        says(5, "5");
        marked("lies 1 or ^;", "lies 1 and ^;", "lies ^or 1;", "lies ^and 1;", "lies 1 or ^or 1;", "lies 1 and ^or 1;", "lies 1 or ^and 1;");
    }

    private static void comparison() {
        sentence("Terms", "NOT: not NOT, or SUM, perhaps < or = and a SUM.");
        says(1, "not 1<1");
        says(0, "not not 0");
        says(0, "not 2=2");
        says(1, "1+1=2");
        says(0, "2<1+1");
        says(1, "1 and not 0");
        marked("lies 1<2^<3;", "lies 1=1^=1;", "lies 1<2^=1;", "lies 1=1^<2;", "lies 1<^not 1;", "lies 1=^not 1;", "lies 1<^;", "lies ^<1;",
            "lies ^=1;", "lies 1+^not 1;", "lies not^;", "lies 1 ^not 1;");
    }

    private static void sumsAndTerms() {
        sentence("Terms", "SUM: TERM { + or - TERM }. TERM: ONE { * ONE }. ONE: a NUMBER, a NAME, - ONE, ( E ).");
        says(7, "1+2*3");
        says(-4, "1-2-3");
        says(24, "1*2*3*4");
        says(9, "(1+2)*3");
        says(-6, "2*-3");
        says(5, "2--3");
        says(-2, "-3+1");
        says(2, "--2");
        says(1, "(0 or 3)");
        says(50, "nerve");
        marked("lies 1+^;", "lies 1-^;", "lies 1*^;", "lies -^;", "lies ^+1;", "lies ^*1;", "lies 1+^+1;", "lies 1*^*1;", "lies (^);", "lies (1^;",
            "lies 1^);", "lies 1 ^2;", "lies nerve ^told;", "lies 1^(2);", "lies (1)^(2);");
    }

    private static void names() {
        sentence("Terms", "NAMES: nerve told hour last people more.");
        BellOfLies x = townAfter(8, "lies nerve;costs told*10+hour;strokes last*10+people;", 7, 50, 0);
        x.put(0, 1, 3);
        x.clock(24 + 6);
        due("nerve", x.asks(0, 0), 50);
        due("told, hour", x.asks(1, 0), 36);
        due("last, people", x.asks(2, 0), 82);
        says(7, "more");
        marked("lies ^nerves;", "lies ^nerv;", "lies ^tol;", "lies ^tolds;", "lies ^hours;", "lies ^hou;", "lies ^las;", "lies ^lasts;", "lies ^peopl;",
            "lies ^peoples;", "lies ^mor;", "lies ^mores;", "lies ^own;", "lies ^toll;", "lies ^kind;", "lies ^vow;");
    }

    /** 2147483647 is 9999*9999*21+9999*4790+8416. */
    private static void wrappingInts() {
        sentence("Terms", "An E is an int (32 bits, wrapping)");
        String most = "9999*9999*21+9999*4790+8416";
        says(99, most);
        says(-99, most + "+1");
        says(1, "0<" + most);
        says(1, most + "+1<0");
        says(1, most + "+1=-(" + most + ")-1");
        says(-99, "-(" + most + "+1)");
        says(99, "-(" + most + ")-1-1");
        says(1, "-(" + most + ")-1<" + most);
        says(0, most + "<-(" + most + ")-1");
        says(-2, "(" + most + ")*2");
        says(1, "(" + most + ")*(" + most + ")");
        says(0, "(" + most + "+1)*2");
    }

    private static void truth() {
        sentence("Terms", "of or, and, not, <, = 1 or 0 (what is not 0 is true).");
        int[] numbers = { -9999, -1, 0, 1, 2, 9999 };
        for (int a : numbers) {
            says(a != 0 ? 0 : 1, "not " + a);
            for (int b : numbers) {
                says(a != 0 || b != 0 ? 1 : 0, a + " or " + b);
                says(a != 0 && b != 0 ? 1 : 0, a + " and " + b);
                says(a < b ? 1 : 0, a + "<" + b);
                says(a == b ? 1 : 0, a + "=" + b);
            }
        }
    }

    private static void faultAtTheEnd() {
        sentence("Terms", "FAULT: the place of the first byte of the first TOKEN that can't stand there (the text's size, if it ends too early)");
        String whole = "lies 1 or 0;costs-(1);strokes nerve<2;";
        for (int n = 0; n < whole.length(); n++) {
            String text = whole.substring(0, n);
            boolean inWord = n > 0 && Character.isLetter(text.charAt(n - 1)) && Character.isLetter(whole.charAt(n));
            if (!inWord) {
                marked(text + "^", text + " ^", text + "\n \n^");
            }
        }
        good(whole);
        marked("^", " ^", " ".repeat(160) + "^", " ".repeat(159) + "^;", "lies " + "1+".repeat(77) + "1^", "lies " + " ".repeat(155) + "^");
    }

    private static void faultAtAToken() {
        sentence("Terms", "also of a byte that begins none, of a WORD that is neither KEY nor NAME, a NUMBER that is too long");
        marked("^!", "^\u0000", "^\u00ff lies", "lies ^!", "lies 1 ^!", "lies 1;^!", "lies 1;costs 1;strokes 1;^!", "^x", "^lie 1;", "lies ^nobody;", "lies 1 ^xor 1;", "lies 1;^cost 1;",
            "lies ^12345;", "^12345", "lies 1 ^12345", "lies 1;costs ^12345;", "lies 1;costs 1;strokes 1;^12345", "lies 1;costs 1;strokes 1;^x");
        String[] ahead = { "", "lies ", "lies (", "lies -", "lies not ", "lies 1+", "lies 1-", "lies 1*", "lies 1<", "lies 1=", "lies 1 or ", "lies 1 and ",
            "lies 1", "lies nerve", "lies (1", "lies (1)", "lies 1;", "lies 1;costs ", "lies 1;costs 1;", "lies 1;costs 1;strokes ", "lies 1;costs 1;strokes 1;" };
        for (String a : ahead) {
            marked(a + " ^!", a + " ^x", a + " ^12345", a + " ^! 1;", a + " ^x 1;", a + " ^12345 1;", a + " ^x(1);", a + " ^x;costs 1;strokes 1;");
        }
        sentence("Terms", "FAULT: the place of the first byte of the first TOKEN that can't stand there");
        marked("lies ^; ! x 12345", "lies ^! ; x", "^costs ! x", "lies ^12345 !", "lies 1 ^2 ! 12345");
    }

    private static void fiveOpenSigns() {
        sentence("Terms", "a ( , a not, a - ahead of a ONE while 5 of these are open");
        String[] opens = { "(", "not ", "-" };
        int mixes = 0;
        for (int code = 0; code < 243; code++) {
            StringBuilder five = new StringBuilder();
            StringBuilder close = new StringBuilder();
            boolean hasMinus = false;
            boolean possible = true;
            for (int i = 0, c = code; i < 5; i++, c /= 3) {
                String open = opens[c % 3];
                possible &= !(hasMinus && c % 3 == 1);
                hasMinus = c % 3 != 0 && (hasMinus || c % 3 == 2);
                five.append(open);
                close.append(c % 3 == 0 ? ")" : "");
            }
            if (possible) {
                mixes++;
                good("lies " + five + "1" + close + ";costs 1;strokes 1;");
                marked("lies " + five + "^(1)" + close + ";", "lies " + five + "^-1" + close + ";", "lies " + five + "^not 1" + close + ";");
            }
        }
        due("mixes of five, a not never straight behind a -", mixes, 144);
    }

    private static void fiveOpenTillTheyEnd() {
        sentence("Terms", "(a ( till its ) , not and - till what they belong to ends)");
        good("lies (((((1)))))+(((((1)))));costs 1;strokes 1;", "lies ((((1)))+(1));costs 1;strokes 1;", "lies ((((1)+(1))));costs 1;strokes 1;",
            "lies -----1+-----1;costs -----1*-----1;strokes -----1--1;", "lies -(-(-1))-(-(-1));costs 1;strokes 1;",
            "lies not not not not not 1 and not not not not not 1;costs 1;strokes 1;", "lies not not not not not 1 or (((((1)))));costs 1;strokes 1;",
            "lies not not not not(1)<(1);costs 1;strokes 1;", "lies not not not not-1=-1;costs 1;strokes 1;", "lies not not not not 1-1<1;costs 1;strokes 1;",
            "lies ((((-1-1))));costs ((((-1))))-(((((1)))));strokes 1;", "lies not not not not not 1-1;costs (((((1-1)))));strokes (((((1)))));");
        marked("lies not not not not not 1<^(1);", "lies not not not not not 1=^-1;", "lies not not not not not 1+^(1);", "lies not not not not not 1*^-1;", "lies not not not not(1)<(^(1));",
            "lies (((((1+^(1);", "lies ((((-^-1", "lies -(-(1)+(-(^(1", "lies -(-(1)+(--^(1", "lies (((((1 or ^not 1", "lies (((((1 and ^(1", "lies ----(^-1", "lies (((((1))))+((((^(1");
    }

    private static void textsByNumbers() {
        sentence("Terms", "TEXTS are numbered from 0 on, 6 at most");
        BellOfLies x = town(0, 0, 0);
        for (int t = 1; t < 6; t++) {
            due("force of the next TEXT", x.force(t), BAD);
            due("text", read(x, "lies " + t + ";costs 1;strokes 1;"), t);
            due("TEXTS", x.count(3), t + 1);
        }
        due("a seventh", read(x, FREE), FULL);
        due("TEXTS", x.count(3), 6);
        due("force(6)", x.force(6), BAD);
        due("force(-1)", x.force(-1), BAD);
        for (int t = 5; t >= 0; t--) {
            due("force(" + t + ")", x.force(t), t == 5 ? 0 : t + 1);
            due("what it says", x.asks(0, 0), t);
        }
    }

    private static void textZero() {
        sentence("Terms", "TEXT 0, at first, and THE LAW: lies nerve ; costs 1 ; strokes 1 ;");
        int[] nerves = { 0, 1, 99 };
        for (int nerve : nerves) {
            BellOfLies x = town(0, nerve, ALL);
            due("TEXTS", x.count(3), 1);
            due("THE LAW", x.count(4), 0);
            due("lies", x.asks(0, 0), nerve);
            due("costs", x.asks(1, 0), 1);
            due("strokes", x.asks(2, 0), 1);
            due("LIES", x.tells(0, 6), nerve == 0 ? 0 : 1);
        }
    }

    private static void whatALawSays() {
        sentence("Terms", "(lies, strokes 0 .. 99, costs -99 .. 99, else the bound; lies: it says so, if that isn't 0)");
        int[] numbers = { -9999, -100, -99, -98, -1, 0, 1, 98, 99, 100, 9999 };
        for (int v : numbers) {
            BellOfLies x = ruledTown("lies " + v + ";costs " + v + ";strokes " + v + ";", 0, 0, ALL);
            int most = Math.min(99, v);
            due("lies " + v, x.asks(0, 0), Math.max(0, most));
            due("costs " + v, x.asks(1, 0), Math.max(-99, most));
            due("strokes " + v, x.asks(2, 0), Math.max(0, most));
            due("it LIES, lies " + v, x.tells(0, 6), v > 0 ? 1 : 0);
            due("it COSTS " + v, x.tells(0, 7), 1000 + Math.max(-99, most));
            due("STROKES " + v, x.tells(0, 8), Math.max(0, most));
        }
    }

    private static void namesOfOne() {
        sentence("Terms", "of one of PEOPLE: nerve: NERVE; told: TOLD, 99 at most; hour: the HOUR of the day; last: LAST; people: how many there are; more: MORE.");
        int[] told = { 0, 1, 98, 99, 100, 9999 };
        for (int v : told) {
            BellOfLies x = ruledTown("lies 1;costs told-99;strokes told*2-110;", 0, 0, 0);
            x.put(0, 1, v);
            due("told of " + v, x.asks(1, 0), Math.min(99, v) - 99);
            due("twice told of " + v + " less 110", x.asks(2, 0), Math.max(0, 2 * Math.min(99, v) - 110));
        }
        BellOfLies x = ruledTown("lies nerve;costs people;strokes more;", 0, 0, 0);
        for (int p = 1; p < 6; p++) {
            due("people", x.asks(1, 0), p);
            due("person", x.person(p == 5 ? 9 : p, p == 5 ? 99 : p, 0), p);
            due("nerve", x.asks(0, p), p == 5 ? 99 : p);
            due("more", x.asks(2, p), p == 5 ? 9 : p);
        }
        due("people, six", x.asks(1, 5), 6);
    }

    // ---- hours

    private static void strikesOfAll() {
        sentence("Terms", "STRIKES: STROKES of all who LIE now, together.");
        due("of nobody", new BellOfLies().bell(1), 0);
        BellOfLies x = townAfter(99, "lies 1;costs 0;strokes 99;", 30, 0, ALL, 30, 0, ALL, 30, 0, ALL, 30, 0, ALL, 30, 0, ALL);
        due("of five, 198 each", x.bell(1), 990);
        x.put(5, 3, 0);
        due("with the last one's 99", x.bell(1), 1089);
        for (int p = 0; p < 5; p++) {
            x.put(p, 2, 0);
        }
        x.clock(1);
        due("of one", x.bell(1), 99);
        x.put(5, 2, 0);
        due("of none who LIES", x.bell(1), 0);
    }

    private static void toldAhead() {
        sentence("Terms", "An HOUR (who LIES, STRIKES told ahead)");
        BellOfLies x = ruledTown("lies nerve;costs nerve;strokes nerve+last+told;", 20, 7, ALL, 0, 9, ALL);
        due("who LIES", x.bell(0), 3);
        due("STRIKES of it, by NERVE as it was", x.strike(), 16);
        due("NERVE", x.tells(0, 0) + x.tells(1, 0), 0);
        due("who LIES then", x.bell(0), 0);
        x = ruledTown("lies 1;costs last+hour+told;strokes 3;", 0, 50, ALL, 0, 50, ALL);
        x.clock(2);
        due("strike", x.strike(), 6);
        due("NERVE is less by LAST, HOUR, TOLD as they were: 2", x.tells(0, 0), 48);
        due("of the second too", x.tells(1, 0), 48);
        due("strike", x.strike(), 6);
        due("NERVE is less by 6 + 3 + 1", x.tells(1, 0), 38);
    }

    private static void nerveLessens() {
        sentence("Terms", "NERVE is less by what it COSTS (0 .. 99, else the bound)");
        int[] nerves = { 0, 1, 2, 3, 97, 98, 99 };
        for (int nerve : nerves) {
            for (int cost = -99; cost <= 99; cost += cost == -99 || cost == 3 ? 96 : 1) {
                BellOfLies x = ruledTown("lies 1;costs " + cost + ";strokes 0;", 0, nerve, ALL);
                int want = Math.max(0, Math.min(99, nerve - cost));
                due("NERVE " + nerve + " in thought, costs " + cost, x.run(1, 10), want);
                x.strike();
                due("NERVE " + nerve + ", costs " + cost, x.tells(0, 0), want);
            }
        }
    }

    private static void toldGrows() {
        sentence("Terms", "TOLD 1 more (9999 at most)");
        int[] told = { 0, 9997, 9998, 9999 };
        for (int v : told) {
            BellOfLies x = ruledTown(FREE, 0, 0, ALL, 0, 0, 0);
            x.put(0, 1, v);
            x.put(1, 1, v);
            due("TOLD of two hours in thought", x.run(2, 20), Math.min(9999, v + 2));
            x.strike();
            due("TOLD behind an hour", x.tells(0, 1), Math.min(9999, v + 1));
            due("TOLD of who didn't LIE", x.tells(1, 1), v);
        }
    }

    private static void hourGoesBy() {
        sentence("Terms", "then LAST is how many STRIKES there were (99 at most), TOLL as many more as STRIKES there were (999999 at most), HOUR 1 more.");
        BellOfLies x = ruledTown("lies 1;costs 0;strokes 90+hour;", 20, 0, ALL, 50, 0, 0);
        x.clock(8);
        int[] strikes = { 98, 99, 99, 99 };
        int[] toll = { 98, 197, 296, 395 };
        for (int h = 0; h < 4; h++) {
            due("strike", x.strike(), strikes[h]);
            due("LAST", x.count(6), strikes[h]);
            due("TOLL", x.count(2), toll[h]);
            due("HOUR", x.count(1), 9 + h);
        }
        x.person(9, 0, ALL);
        due("strike of two", x.strike(), 198);
        due("LAST, 99 at most", x.count(6), 99);
        due("TOLL, by 198", x.count(2), 593);
    }

    private static void theDay() {
        sentence("Terms", "THE DAY: STRIKES of the 24 HOURS to come, the first being those now, in thought.");
        BellOfLies x = ruledTown("lies 1;costs 1;strokes 30-nerve;", 0, 30, ALL, 50, 0, 0);
        due("the most: of the 24th", x.dial(3), 23);
        due("the first has none", x.dial(2), 1);
        due("it is the last one", x.dial(4), 23);
        due("all differ", x.dial(0), 24);
        due("both LIE in 24", x.pair(1), 24);
        due("together, less the 0 of the first", x.lesson(0, 0), 0);
        due("nothing passed", x.count(1) + x.count(2) + x.count(6) + x.tells(0, 1), 0);
        due("NERVE", x.tells(0, 0), 30);
    }

    // ---- crowds, images, sheets

    private static void crowdsBySeeds() {
        sentence("Terms", "CROWDS by a SEED (0 .. 99999), of n HOURS, in thought: ahead of each a LOT");
        BellOfLies x = ruledTown(FREE, 0, 0, ALL, 0, 0, ALL, 0, 0, ALL, 0, 0, ALL, 0, 0, ALL, 0, 0, ALL);
        due("seed -1", x.drawn(-1, 0, 0), BAD);
        due("seed 0, no HOUR", x.drawn(0, 0, 0), 0);
        due("seed 99999, no HOUR", x.drawn(99999, 0, 0), 0);
        due("seed 100000", x.drawn(100000, 0, 0), BAD);
        for (int seed = 0; seed < 100000; seed += seed < 16 ? 1 : 8332) {
            int turn = turnsOf(seed, 1)[0];
            x = ruledTown(FREE, 0, 0, ALL, 0, 0, ALL, 0, 0, ALL, 0, 0, ALL, 0, 0, ALL, 0, 0, ALL);
            due("seed " + seed + ": the lot " + turn + " is ahead of the first HOUR", x.drawn(seed, 1, 0), turn < 6 ? 5 : 6);
        }
        x.clock(9999);
        due("in thought", x.drawn(99999, 48, 0) > 0 ? 1 : 0, 1);
        due("HOUR stays", x.count(1), 9999);
    }

    private static void crowdsTurnVows() {
        sentence("Terms", "who is numbered LOT modulo 8, if there is one, is under a VOW, if not, or not, if so.");
        int[] more = { 1, 2, 4, 8 };
        for (int people = 0; people <= 6; people++) {
            BellOfLies x = new BellOfLies();
            rule(x, "lies 1;costs 0;strokes more;");
            for (int p = 0; p < people; p++) {
                x.person(p < 4 ? more[p] : 20 + p + 1, 0, ALL);
            }
            int[] strokes = { 1, 2, 4, 8, 10, 12 };
            for (int seed = 0; seed < 12; seed++) {
                int vows = 0;
                int want = 0;
                for (int turn : turnsOf(seed, 24)) {
                    vows ^= turn < people ? 1 << turn : 0;
                    for (int p = 0; p < people; p++) {
                        want += (vows >> p & 1) == 0 ? strokes[p] : 0;
                    }
                }
                due(people + " people, seed " + seed, x.drawn(seed, 24, 0), want);
            }
            due("VOWS", x.bell(3), 0);
        }
    }

    /** Of seed 0 the first lots are 48271 (7 modulo 8) and 182605794 (2); of seed 99999 the product passes an int. */
    private static void lots() {
        sentence("Terms", "LOTS: the first is (SEED and 1) times 48271 modulo 2147483647, each further one the last times 48271 modulo 2147483647.");
        due("lots of seed 0", turnsOf(0, 2)[0] * 10 + turnsOf(0, 2)[1], 72);
        int[] seeds = { 0, 1, 2, 44487, 44488, 44489, 99998, 99999 };
        for (int seed : seeds) {
            BellOfLies x = ruledTown("lies 1;costs 0;strokes more;", 1, 0, ALL, 2, 0, ALL, 4, 0, ALL, 8, 0, ALL, 9, 0, ALL, 27, 0, ALL);
            int[] strokes = { 1, 2, 4, 8, 9, 14 };
            int vows = 0;
            int all = 0;
            int[] turns = turnsOf(seed, 48);
            for (int n = 1; n <= 48; n++) {
                int turn = turns[n - 1];
                vows ^= turn < 6 ? 1 << turn : 0;
                for (int p = 0; p < 6; p++) {
                    all += (vows >> p & 1) == 0 ? strokes[p] : 0;
                }
                due("seed " + seed + ", " + n + " HOURS", x.drawn(seed, n, 0), all);
            }
        }
    }

    private static void imageKeeps() {
        sentence("Terms", "AN IMAGE keeps NERVE, TOLD, OWN, VOWS of all, how many PEOPLE there are, HOUR, TOLL, LAST, THE LAW.");
        BellOfLies x = ruledTown(FREE, 1, 0, ALL, 12, 99, 0, 23, 5, ALL, 34, 6, ALL, 45, 7, ALL, 56, 8, 1 << 23);
        for (int p = 0; p < 6; p++) {
            x.put(p, 1, 9999 - p);
            x.put(p, 3, p % 2);
        }
        x.clock(9998);
        x.strike();
        String before = all(x);
        due("image", x.image(), 6);
        read(x, "lies 0;costs 9;strokes 9;");
        x.force(2);
        for (int p = 0; p < 6; p++) {
            x.put(p, 0, 50);
            x.put(p, 1, 5);
            x.put(p, 2, 77);
            x.put(p, 3, 1 - p % 2);
        }
        x.clock(3);
        x.strike();
        x.strike();
        due("back", x.back(), 6);
        same("back", all(x), before);
        due("TEXTS are not of THE IMAGE", x.count(3), 3);
    }

    private static String all(BellOfLies x) {
        StringBuilder b = new StringBuilder();
        for (int p = 0; p < 6; p++) {
            for (int what = 0; what < 9; what++) {
                b.append(x.tells(p, what)).append(' ');
            }
        }
        return b.append(x.count(0)).append(' ').append(x.count(1)).append(' ').append(x.count(2)).append(' ').append(x.count(4)).append(' ')
            .append(x.count(6)).append(' ').append(x.bell(3)).toString();
    }

    private static void sheetsBegin() {
        sentence("Terms", "SHEETS 0 .. 3 are rows of numbers, or missing (as all are at first)");
        BellOfLies x = new BellOfLies();
        for (int s = 0; s < 4; s++) {
            due("judge(" + s + ")", x.judge(s), MISSING);
            due("cell", x.cell(s, 0, 0), MISSING);
        }
        for (int s = -1; s <= 4; s += 5) {
            due("judge(" + s + ")", x.judge(s), BAD);
            due("sheet", x.sheet(s, 2, 1), BAD);
        }
        for (int s = 0; s < 4; s++) {
            row(x, s, s + 1);
            due("another one is as it was", s < 3 ? x.judge(s + 1) : MISSING, MISSING);
        }
        for (int s = 0; s < 4; s++) {
            due("each tells its own", x.judge(s), 0);
            x.cell(s, 0, 0);
            due("each tells its own", x.judge(s), -1);
        }
    }

    private static void sheetsOfSorts() {
        sentence("Terms", "of sort 0 bytes, 1 shorts, 2 ints, 40 at most");
        BellOfLies x = new BellOfLies();
        for (int sort = 0; sort < 3; sort++) {
            due("41", x.sheet(0, sort, 41), BAD);
            due("40", x.sheet(0, sort, 40), 1);
            due("number 39", x.cell(0, 39, 1), 1);
            due("number 40", x.cell(0, 40, 1), OUTSIDE);
            for (int other = 0; other < 3; other++) {
                due("taken as sort " + other, x.townBy(0, other, 0, 0), other == sort ? 0 : UNLIKE);
            }
        }
    }

    // ---- refusals

    private static void refused(BellOfLies x, int want, String name, int... a) {
        due(name + java.util.Arrays.toString(a), Calls.on(x, name, a), want);
    }

    /** Sheet 0 has 5 bytes, 1 has 25 shorts, 2 has 24 ints, 3 is missing; one person, one text. */
    private static void refusalsFirstTold() {
        sentence("Terms", "REFUSALS, of several the first one told");
        BellOfLies x = town(0, 9, ALL);
        x.sheet(0, 0, 5);
        x.sheet(1, 1, 25);
        x.sheet(2, 2, 24);
        refused(x, NO_PERSON, "put", 1, 4, -1);
        refused(x, WRONG, "put", 0, 4, -1);
        refused(x, NO_PERSON, "tells", 1, 9);
        refused(x, NO_PERSON, "lesson", 1, 2);
        for (String name : new String[] { "kinds", "nerves" }) {
            refused(x, BAD, name, 4, 1, 2);
            refused(x, MISSING, name, 3, 1, 2);
            refused(x, BAD, name, 1, 1, 2);
            refused(x, NO_PERSON, name, 2, 1, 2);
            refused(x, WRONG, name, 2, 0, 2);
        }
        refused(x, BAD, "film", 4, 25);
        refused(x, WRONG, "film", 3, 25);
        refused(x, BAD, "sheet", 4, 0, -1);
        refused(x, BAD, "sheet", 0, 3, -1);
        refused(x, BELOW_ZERO, "sheet", 0, 0, -1);
        refused(x, BAD, "cell", 4, -1, 0);
        refused(x, MISSING, "cell", 3, -1, 0);
        refused(x, OUTSIDE, "cell", 0, -1, 0);
        refused(x, BAD, "copy", 3, -1, 4, -1, -1);
        refused(x, MISSING, "copy", 0, -1, 3, -1, -1);
        refused(x, UNLIKE, "copy", 0, -1, 1, -1, -1);
        refused(x, OUTSIDE, "copy", 0, -1, 0, -1, -1);
        refused(x, BAD, "townBy", 3, 3, -1, 1);
        refused(x, BAD, "townBy", 3, 0, -1, 7);
        refused(x, MISSING, "townBy", 3, 0, -1, 1);
        refused(x, UNLIKE, "townBy", 0, 1, -1, 1);
        refused(x, OUTSIDE, "townBy", 0, 0, -1, 1);
        refused(x, BAD, "taken", 12, 7);
        refused(x, BAD, "taken", 1, 7);
        refused(x, OUTSIDE, "taken", 12, 6);
        refused(x, MISSING, "taken", 1, 6);
        refused(x, UNLIKE, "taken", 0, 6);
        for (int p = 1; p < 6; p++) {
            x.person(0, 0, 0);
        }
        feedAll(x, "!".repeat(160));
        refused(x, BAD, "person", 60, 0, 0);
        refused(x, FULL, "person", 0, 0, 0);
        refused(x, BAD, "feed", 1, 0, 0, 0, 0, 256);
        refused(x, FULL, "feed", 1, 0, 0, 0, 0, 0);
    }

    private static void refusalsAheadOfAnswers() {
        sentence("Terms", "(a -1 that is an answer comes behind the refusal of a number)");
        BellOfLies[] xs = { new BellOfLies(), town(0, 9, ALL) };
        for (BellOfLies x : xs) {
            x.film(0, 1);
            x.cell(0, 0, 77);
            refused(x, -1, "when", 999);
            refused(x, BAD, "when", 1000);
            refused(x, BAD, "when", -1);
            refused(x, -1, "hush", 0);
            refused(x, BAD, "hush", 2);
            refused(x, -1, "council", 24, 999, 1);
            refused(x, BAD, "council", 25, 999, 1);
            refused(x, BAD, "council", 24, 1000, 1);
            refused(x, BAD, "council", 24, 999, 2);
            refused(x, -1, "pair", 1);
            refused(x, BAD, "pair", 2);
            refused(x, 0, "judge", 0);
            refused(x, BAD, "judge", 4);
            refused(x, x.count(0) == 0 ? NO_PERSON : -1, "nerves", 0, 0, 1);
            refused(x, x.count(0) == 0 ? NO_PERSON : WRONG, "nerves", 0, 0, 2);
            x.sheet(0, 2, 0);
            refused(x, -1, "judge", 0);
            x.sheet(0, 2, 25);
            refused(x, BAD, "judge", 0);
            refused(x, BAD, "nerves", 0, 0, 1);
        }
    }
}

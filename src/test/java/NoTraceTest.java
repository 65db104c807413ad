import java.util.function.Supplier;

/** A refused call and an asking one change nothing: what can be seen of the town is as of its twin, that had no such
 *  call, for each call with each mix of numbers at the document's bounds and next to them. */
public final class NoTraceTest extends Answers {
    private static final int ASKED_TOGETHER = 60;

    public static void main(String[] args) {
        seenTellsApart();
        String[] names = { "an empty town", "a town", "a full town" };
        for (int t = 0; t < names.length; t++) {
            int n = t;
            Supplier<BellOfLies> maker = () -> n == 0 ? new BellOfLies() : n == 1 ? midTown() : fullTown();
            refused(names[t], maker);
            asked(names[t], maker);
        }
        refusedByState();
        changedWhereTold();
        finish();
    }

    private static void refused(String town, Supplier<BellOfLies> maker) {
        sentence("Terms", "They change nothing, but where it is told.");
        String untouched = seen(maker.get());
        for (String name : Calls.CHANGING) {
            int[][] edges = Calls.edges(name);
            int[] wheels = new int[edges.length];
            int refusals = 0;
            do {
                BellOfLies x = maker.get();
                int[] a = Calls.numbers(wheels, edges);
                long answer = Calls.on(x, name, a);
                if (Calls.isRefused(name, answer)) {
                    refusals++;
                    same(name + java.util.Arrays.toString(a) + " of " + town, seen(x), untouched);
                }
            } while (Calls.turn(wheels, edges));
            due(name + " of " + town + " is refused at times", refusals > 0 || edges.length == 0 ? 1 : 0, 1);
        }
    }

    private static void asked(String town, Supplier<BellOfLies> maker) {
        sentence("Terms", "What is asked changes nothing, but where it is told.");
        String untouched = seen(maker.get());
        for (String name : Calls.ASKING) {
            int[][] edges = Calls.edges(name);
            int[] wheels = new int[edges.length];
            BellOfLies x = maker.get();
            int asked = 0;
            do {
                Calls.on(x, name, Calls.numbers(wheels, edges));
                asked++;
                if (asked == ASKED_TOGETHER) {
                    same(name + " of " + town + ", " + asked + " calls", seen(x), untouched);
                    x = maker.get();
                    asked = 0;
                }
            } while (Calls.turn(wheels, edges));
            same(name + " of " + town + ", the last calls", seen(x), untouched);
        }
    }

    /** The calls without numbers, by the states in which they are refused. */
    private static void refusedByState() {
        sentence("Promise 12", "STATE: HOUR is 9999.");
        BellOfLies x = fullTown();
        due("strike", x.strike(), STATE);
        same("strike at 9999", seen(x), seen(fullTown()));
        sentence("Promise 32", "STATE: there is none.");
        x = townWithoutImage();
        due("back", x.back(), STATE);
        same("back without IMAGE", seen(x), seen(townWithoutImage()));
        sentence("Promise 5", "FULL (ahead of the FAULT; then THE TAPE stays).");
        x = fullTown();
        due("text", x.text(), FULL);
        same("text of a seventh", seen(x), seen(fullTown()));
        sentence("Promise 8", "BAD; FULL.");
        x = fullTown();
        due("person", x.person(0, 0, 0), FULL);
        same("a seventh", seen(x), seen(fullTown()));
        sentence("Promise 4", "FULL: they have not all room (none comes).");
        x = midTown();
        feedAll(x, " ".repeat(156 - x.count(5)));
        due("feed", x.feed(5, ' ', ' ', ' ', ' ', ' '), FULL);
        BellOfLies twin = midTown();
        feedAll(twin, " ".repeat(156 - twin.count(5)));
        same("five behind 156", seen(x), seen(twin));
    }

    /** Where it is told, a refusal does change: just so much. */
    private static void changedWhereTold() {
        sentence("Promise 5", "THE TAPE, which is empty then (by a FAULT, too)");
        BellOfLies x = midTown();
        due("text of a begun one", x.text(), -107);
        due("THE TAPE", x.count(5), 0);
        feedAll(x, "lies 4;co");
        BellOfLies twin = midTown();
        twin.text();
        feedAll(twin, "lies 4;co");
        same("but THE TAPE it is as it was", seen(x), seen(twin));
        sentence("Promise 36", "-12: what stood ahead came.");
        x = midTown();
        due("one of two", x.townBy(2, 1, 0, 2), OUTSIDE);
        twin = midTown();
        due("person", twin.person(twin.run(0, 1), twin.run(1, 1), twin.run(2, 1)), 3);
        same("one has come", seen(x), seen(twin));
        sentence("Promise 28", "A SHEET truly becomes STRIKES of this HOUR");
        x = midTown();
        due("film", x.film(1, 5), 5);
        twin = midTown();
        twin.sheet(1, 2, 5);
        for (int i = 0; i < 5; i++) {
            twin.cell(1, i, twin.run(i, 1));
        }
        same("but the SHEET it is as it was", seen(x), seen(twin));
    }

    /** seen() would be of no use if it overlooked a change: each of these is seen. */
    private static void seenTellsApart() {
        sentence("Terms", "What is asked changes nothing");
        String untouched = seen(midTown());
        same("twins", seen(midTown()), untouched);
        String[] names = { "clock", "feed", "text", "force", "person", "put", "put", "put", "put", "strike", "film", "image", "sheet", "sheet",
            "sheet", "cell", "cell", "cell", "copy", "townBy", "back" };
        int[][] numbers = { { 9 }, { 1, ' ', 0, 0, 0, 0 }, { }, { 0 }, { 0, 0, 0 }, { 0, 0, 5 }, { 1, 1, 5 }, { 2, 2, 5 }, { 0, 3, 1 }, { }, { 1, 3 }, { },
            { 0, 2, 23 }, { 1, -1, 0 }, { 3, 0, 0 }, { 0, 23, 5 }, { 1, 0, 5 }, { 2, 4, 5 }, { 2, 0, 2, 1, 1 }, { 2, 1, 0, 1 }, { } };
        for (int i = 0; i < names.length; i++) {
            BellOfLies x = midTown();
            long answer = Calls.on(x, names[i], numbers[i]);
            due(names[i] + " is done", answer >= 0 || names[i].equals("text") ? 1 : 0, 1);
            due(names[i] + java.util.Arrays.toString(numbers[i]) + " is seen", seen(x).equals(untouched) ? 0 : 1, 1);
        }
    }

    // ---- the towns

    private static BellOfLies townWithoutImage() {
        BellOfLies x = town(3, 30, ALL, 14, 40, 0x00f00f, 23, 50, ALL);
        rule(x, "lies nerve<90;costs 2-last;strokes 1+more;");
        read(x, "lies 1;costs 0;strokes 2;");
        x.put(1, 3, 1);
        x.put(0, 1, 7);
        x.clock(100);
        x.strike();
        feedAll(x, "lies 6;co");
        return x;
    }

    /** Sheets tell strokes, so that judge() sees each change of theirs; THE TAPE is a TEXT by its half. */
    private static BellOfLies midTown() {
        BellOfLies x = townWithoutImage();
        x.image();
        x.put(0, 0, 77);
        x.put(2, 1, 3);
        x.clock(9990);
        x.strike();
        x.film(0, 24);
        x.sheet(1, 0, 3);
        for (int i = 0; i < 3; i++) {
            x.cell(1, i, x.run(i, 1));
        }
        x.sheet(2, 1, 5);
        for (int i = 0; i < 5; i++) {
            x.cell(2, i, x.run(i, 1));
        }
        return x;
    }

    private static BellOfLies fullTown() {
        BellOfLies x = town(0, 30, ALL, 11, 30, ALL, 22, 30, ALL, 33, 30, ALL, 44, 30, ALL, 55, 30, ALL);
        for (int t = 1; t < 6; t++) {
            read(x, "lies " + t + ";costs 1;strokes " + t + ";");
        }
        x.force(4);
        x.put(5, 3, 1);
        x.clock(9998);
        x.strike();
        x.image();
        x.put(3, 3, 1);
        for (int s = 0; s < 4; s++) {
            x.film(s, 24);
        }
        feedAll(x, "lies 1;costs 1;strokes 1;".repeat(6) + " ".repeat(10));
        return x;
    }
}

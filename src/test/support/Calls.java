/** Every call of the face by its name, and for each of its numbers those at the document's bounds and next to them. */
final class Calls {
    private static final int LEAST = Integer.MIN_VALUE, MOST = Integer.MAX_VALUE;
    private static final int[] SHEETS = { LEAST, -1, 0, 1, 2, 3, 4, MOST }, PERSONS = { LEAST, -1, 0, 1, 5, 6, MOST },
        ZERO_ONE = { LEAST, -1, 0, 1, 2, MOST }, SEEDS = { LEAST, -1, 0, 1, 99999, 100000, MOST },
        STROKES = { LEAST, -1, 0, 1, 2, 999, 1000, MOST }, BYTES = { -1, 0, 255, 256 };
    private static final int[] OWNS = { LEAST, -1, 0, 1, 16777215, 16777216, MOST };

    static final String[] ASKING = { "count", "asks", "tells", "bell", "run", "when", "dial", "hush", "council", "lesson",
        "pair", "mean", "share", "judge", "kinds", "nerves", "turned", "hours", "laws", "drawn", "odds", "taken" };
    static final String[] CHANGING = { "clock", "feed", "text", "force", "person", "put", "strike", "film", "image", "back",
        "sheet", "cell", "copy", "townBy" };

    private Calls() { }

    static long on(BellOfLies x, String name, int... a) {
        switch (name) {
            case "count": return x.count(a[0]);
            case "clock": return x.clock(a[0]);
            case "feed": return x.feed(a[0], a[1], a[2], a[3], a[4], a[5]);
            case "text": return x.text();
            case "force": return x.force(a[0]);
            case "asks": return x.asks(a[0], a[1]);
            case "person": return x.person(a[0], a[1], a[2]);
            case "put": return x.put(a[0], a[1], a[2]);
            case "tells": return x.tells(a[0], a[1]);
            case "bell": return x.bell(a[0]);
            case "strike": return x.strike();
            case "run": return x.run(a[0], a[1]);
            case "when": return x.when(a[0]);
            case "dial": return x.dial(a[0]);
            case "hush": return x.hush(a[0]);
            case "council": return x.council(a[0], a[1], a[2]);
            case "lesson": return x.lesson(a[0], a[1]);
            case "pair": return x.pair(a[0]);
            case "mean": return x.mean(a[0], a[1]);
            case "share": return x.share(a[0], a[1]);
            case "judge": return x.judge(a[0]);
            case "kinds": return x.kinds(a[0], a[1], a[2]);
            case "nerves": return x.nerves(a[0], a[1], a[2]);
            case "turned": return x.turned(a[0]);
            case "hours": return x.hours(a[0]);
            case "laws": return x.laws(a[0]);
            case "film": return x.film(a[0], a[1]);
            case "drawn": return x.drawn(a[0], a[1], a[2]);
            case "odds": return x.odds(a[0], a[1], a[2], a[3]);
            case "image": return x.image();
            case "back": return x.back();
            case "sheet": return x.sheet(a[0], a[1], a[2]);
            case "cell": return x.cell(a[0], a[1], a[2]);
            case "copy": return x.copy(a[0], a[1], a[2], a[3], a[4]);
            case "townBy": return x.townBy(a[0], a[1], a[2], a[3]);
            case "taken": return x.taken(a[0], a[1]);
            default: throw new IllegalArgumentException(name);
        }
    }

    /** For each number of the call those at its bounds and next to them. */
    static int[][] edges(String name) {
        switch (name) {
            case "count": return new int[][] { { LEAST, -1, 0, 1, 2, 3, 4, 5, 6, 7, MOST } };
            case "clock": return new int[][] { { LEAST, -1, 0, 1, 23, 24, 9999, 10000, MOST } };
            case "feed": return new int[][] { { LEAST, 0, 1, 5, 6, MOST }, BYTES, BYTES, BYTES, BYTES, BYTES };
            case "force": return new int[][] { { LEAST, -1, 0, 1, 2, 5, 6, MOST } };
            case "asks": return new int[][] { { LEAST, -1, 0, 1, 2, 3, MOST }, PERSONS };
            case "person": return new int[][] { { LEAST, -1, 0, 9, 10, 59, 60, MOST }, { LEAST, -1, 0, 99, 100, MOST }, OWNS };
            case "put": return new int[][] { PERSONS, { LEAST, -1, 0, 1, 2, 3, 4, MOST },
                { LEAST, -1, 0, 1, 2, 99, 100, 9999, 10000, 16777215, 16777216, MOST } };
            case "tells": return new int[][] { PERSONS, { LEAST, -1, 0, 1, 2, 3, 4, 5, 6, 7, 8, 9, MOST } };
            case "bell": return new int[][] { { LEAST, -1, 0, 1, 2, 3, 4, MOST } };
            case "run": return new int[][] { { LEAST, -1, 0, 1, 48, 49, MOST },
                { LEAST, -1, 0, 1, 2, 3, 9, 10, 11, 15, 16, 19, 20, 21, 25, 26, MOST } };
            case "when": return new int[][] { STROKES };
            case "dial": return new int[][] { { LEAST, -1, 0, 1, 2, 3, 4, 5, MOST } };
            case "hush": case "pair": return new int[][] { ZERO_ONE };
            case "council": return new int[][] { { LEAST, -1, 0, 1, 24, 25, MOST }, STROKES, ZERO_ONE };
            case "lesson": case "share": return new int[][] { PERSONS, ZERO_ONE };
            case "mean": return new int[][] { { LEAST, -1, 0, 1, 48, 49, MOST }, ZERO_ONE };
            case "judge": case "turned": case "hours": case "laws": return new int[][] { SHEETS };
            case "kinds": case "nerves": return new int[][] { SHEETS, PERSONS, ZERO_ONE };
            case "film": return new int[][] { SHEETS, { LEAST, -1, 0, 1, 24, 25, MOST } };
            case "drawn": return new int[][] { SEEDS, { LEAST, -1, 0, 1, 48, 49, MOST }, ZERO_ONE };
            case "odds": return new int[][] { SEEDS, { LEAST, -1, 0, 1, 40, 41, MOST },
                { LEAST, -1, 0, 1, 9999, 10000, MOST }, ZERO_ONE };
            case "sheet": return new int[][] { SHEETS, { LEAST, -2, -1, 0, 1, 2, 3, MOST }, { LEAST, -1, 0, 1, 24, 25, 40, 41, MOST } };
            case "cell": return new int[][] { SHEETS, { LEAST, -1, 0, 1, 23, 24, 39, 40, MOST },
                { LEAST, -1, 0, 1, 127, 128, 255, 256, 32767, 32768, 65535, 65536, MOST } };
            case "copy": return new int[][] { { -1, 0, 1, 2, 3, 4 }, { LEAST, -1, 0, 1, 24, 25, MOST }, { -1, 0, 1, 2, 3, 4 },
                { LEAST, -1, 0, 1, 24, 25, MOST }, { LEAST, -1, 0, 1, 23, 24, 25, MOST } };
            case "townBy": return new int[][] { SHEETS, { LEAST, -1, 0, 1, 2, 3, MOST },
                { LEAST, -1, 0, 1, 6, 21, 22, 24, 40, MOST }, { LEAST, -1, 0, 1, 2, 6, 7, MOST } };
            case "taken": return new int[][] { { LEAST, -1, 0, 1, 5, 6, 7, 11, 12, MOST }, { LEAST, -1, 0, 1, 2, 3, 4, 5, 6, 7, MOST } };
            default: return new int[0][];
        }
    }

    /** Whether what a changing call answered is a refusal by which nothing may change. */
    static boolean isRefused(String name, long answer) {
        boolean tellsOfChange = name.equals("text") && answer <= -100 || name.equals("townBy") && answer == -12;
        return answer < 0 && !tellsOfChange;
    }

    /** The next mix of numbers, as a clock's wheels turn; false behind the last. */
    static boolean turn(int[] wheels, int[][] edges) {
        for (int i = 0; i < wheels.length; i++) {
            wheels[i]++;
            if (wheels[i] < edges[i].length) {
                return true;
            }
            wheels[i] = 0;
        }
        return false;
    }

    static int[] numbers(int[] wheels, int[][] edges) {
        int[] a = new int[wheels.length];
        for (int i = 0; i < a.length; i++) {
            a[i] = edges[i][wheels[i]];
        }
        return a;
    }
}

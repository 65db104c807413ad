/** A town whose only clock is a great bell: at each hour it strikes for the lies that are told then. */
public final class BellOfLies {
    public static final int NONE = -1, BAD = -2, STATE = -3, FULL = -4;
    public static final long NO = -4611686018427387904L;

    private static final int NO_PERSON = -5, WRONG_NUMBER = -7, NOT_ASKED = -1000, FAULTY = -100;
    private static final int MISSING = -11, OUTSIDE = -12, UNLIKE = -13, BELOW_ZERO = -14;

    private static final int MOST_PEOPLE = 6, MOST_TEXTS = 6, MOST_BYTES = 160, MOST_OPEN = 5;
    private static final int MOST_SHEETS = 4, MOST_CELLS = 40, DAY_HOURS = 24, CROWD_HOURS = 12;
    private static final int MOST_HOUR = 9999, MOST_TOLL = 999999, MOST_LAST = 99;
    private static final int MOST_NERVE = 99, MOST_TOLD = 9999, MOST_SAID = 99;
    private static final int MOST_SEED = 99999, MOST_STROKES = 999;
    private static final int ALL_HOURS = 16777215;

    private static final int PERSON = 0, LOVER = 1, TRADER = 2, WAITING = 3, POET = 4, MAD = 5, KINDS = 6;
    private static final int OWN_HOURS = 6;
    private static final int LIES = 0, COSTS = 1, STROKES = 2, PARTS = 3;

    // Steps of a text: a number from 0 on stands for itself.
    private static final int STEP_NERVE = -1, STEP_TOLD = -2, STEP_HOUR = -3, STEP_LAST = -4,
        STEP_PEOPLE = -5, STEP_MORE = -6, STEP_OR = -7, STEP_AND = -8, STEP_NOT = -9, STEP_LESS = -10,
        STEP_LIKE = -11, STEP_PLUS = -12, STEP_LESSEN = -13, STEP_TIMES = -14, STEP_MINUS = -15;

    // Tokens: a sign is its own byte; the names stand as their steps do, below 0.
    private static final int TOKEN_END = 0, TOKEN_NONE = 1, TOKEN_NUMBER = 2;
    private static final int TOKEN_LIES = 256, TOKEN_COSTS = 257, TOKEN_STROKES = 258,
        TOKEN_OR = 259, TOKEN_AND = 260, TOKEN_NOT = 261;

    private final Text[] texts = new Text[MOST_TEXTS];
    private final Row[] rows = new Row[MOST_SHEETS];
    private final Scribe scribe = new Scribe();
    private final Day day = new Day();
    private final Town now, thought, kept;
    private int textsRead = 1;
    private boolean hasImage = false;

    /** Nobody is in the town, and the first text is the law. */
    public BellOfLies() {
        Text first = new Text();
        first.becomeFirstLaw();
        texts[0] = first;
        for (int t = 1; t < MOST_TEXTS; t++) {
            texts[t] = new Text();
        }
        for (int s = 0; s < MOST_SHEETS; s++) {
            rows[s] = new Row();
        }
        now = new Town(first);
        thought = new Town(first);
        kept = new Town(first);
    }

    // ---- the bell, the law, people

    public int count(int what) {
        switch (what) {
            case 0: return now.people;
            case 1: return now.hour;
            case 2: return now.toll;
            case 3: return textsRead;
            case 4: return now.lawNumber;
            case 5: return scribe.size;
            case 6: return now.last;
            default: return BAD;
        }
    }

    public int clock(int v) {
        if (!isWithin(v, 0, MOST_HOUR)) {
            return BAD;
        }
        int was = now.hour;
        now.hour = v;
        return was;
    }

    public int feed(int n, int a, int b, int c, int d, int e) {
        if (!isWithin(n, 1, 5) || !isByte(a) || !isByte(b) || !isByte(c) || !isByte(d) || !isByte(e)) {
            return BAD;
        }
        if (scribe.size + n > MOST_BYTES) {
            return FULL;
        }
        for (int i = 0; i < n; i++) {
            scribe.add(i == 0 ? a : i == 1 ? b : i == 2 ? c : i == 3 ? d : e);
        }
        return scribe.size;
    }

    public int text() {
        if (textsRead < 0 || textsRead >= MOST_TEXTS) {
            return FULL;
        }
        int fault = scribe.readInto(texts[textsRead]);
        if (fault >= 0) {
            return FAULTY - fault;
        }
        textsRead++;
        return textsRead - 1;
    }

    public int force(int t) {
        if (t < 0 || t >= textsRead || t >= MOST_TEXTS) {
            return BAD;
        }
        int was = now.lawNumber;
        now.obey(texts[t], t);
        return was;
    }

    public int asks(int part, int p) {
        if (!isWithin(part, LIES, STROKES) || !now.has(p)) {
            return NOT_ASKED;
        }
        return now.law.says(part, now, p);
    }

    public int person(int kindMore, int nerves, int hours) {
        return now.join(kindMore, nerves, hours);
    }

    public int put(int p, int what, int v) {
        if (!now.has(p)) {
            return NO_PERSON;
        }
        int most = mostOf(what);
        if (most < 0 || !isWithin(v, 0, most)) {
            return WRONG_NUMBER;
        }
        int was = now.known(p, what);
        now.change(p, what, v);
        return was;
    }

    public int tells(int p, int what) {
        if (!now.has(p)) {
            return NO_PERSON;
        }
        switch (what) {
            case 0: case 1: case 2: case 3: return now.known(p, what);
            case 4: return now.kind[p];
            case 5: return now.more[p];
            case 6: return now.isLying(p) ? 1 : 0;
            case 7: return now.costOf(p) + 1000;
            case 8: return now.strokesOf(p);
            default: return WRONG_NUMBER;
        }
    }

    public int bell(int what) {
        switch (what) {
            case 0: return now.liars();
            case 1: return now.strikesOf(now.liars());
            case 2: return now.toll;
            case 3: return now.vows;
            default: return BAD;
        }
    }

    // ---- hours

    public int strike() {
        if (now.hour >= MOST_HOUR) {
            return STATE;
        }
        return now.passHour(now.liars());
    }

    public int run(int n, int what) {
        if (!isWithin(n, 0, 48)) {
            return BAD;
        }
        boolean ofNerve = what >= 10 && now.has(what - 10);
        boolean ofTold = what >= 20 && now.has(what - 20);
        if (!isWithin(what, 0, 2) && !ofNerve && !ofTold) {
            return BAD;
        }
        Town town = startThought();
        int together = town.passHours(n);
        switch (what) {
            case 0: return together;
            case 1: return town.strikesOf(town.liars());
            case 2: return town.liars();
            default: return ofTold ? town.known(what - 20, 1) : town.known(what - 10, 0);
        }
    }

    public int when(int strokes) {
        if (!isWithin(strokes, 0, MOST_STROKES)) {
            return BAD;
        }
        Town town = startThought();
        for (int h = 0; h <= 60; h++) {
            if (town.passHour(town.liars()) == strokes) {
                return h;
            }
        }
        return NONE;
    }

    public int dial(int what) {
        if (!isWithin(what, 0, 4)) {
            return BAD;
        }
        day.live(startThought());
        switch (what) {
            case 0: return day.hoursAlone();
            case 1: return day.longestRow();
            case 2: return day.hoursOf(0);
            case 3: return day.mostStrikes();
            default: return day.firstOf(day.mostStrikes());
        }
    }

    // ---- what is best

    public int hush(int what) {
        if (!isWithin(what, 0, 1)) {
            return BAD;
        }
        day.live(startThought());
        int who = NONE;
        int most = day.hoursAlone();
        for (int p = 0; p < now.people; p++) {
            Town town = startThought();
            town.turnVow(p);
            day.live(town);
            int alone = day.hoursAlone();
            if (alone > most) {
                most = alone;
                who = p;
            }
        }
        return what == 0 ? who : most;
    }

    public int council(int n, int strokes, int what) {
        if (!isWithin(n, 0, 24) || !isWithin(strokes, 0, MOST_STROKES) || !isWithin(what, 0, 1)) {
            return BAD;
        }
        int best = NONE;
        int fewest = MOST_PEOPLE + 1;
        for (int set = 0; set < 1 << now.people; set++) {
            int size = Integer.bitCount(set);
            if ((set & now.vows) != 0 || size >= fewest) {
                continue;
            }
            Town town = startThought();
            town.vows |= set;
            town.passHours(n);
            if (town.strikesOf(town.liars()) == strokes) {
                best = set;
                fewest = size;
            }
        }
        if (best == NONE) {
            return NONE;
        }
        return what == 0 ? best : fewest;
    }

    public int lesson(int p, int what) {
        if (!now.has(p)) {
            return NO_PERSON;
        }
        if (!isWithin(what, 0, 1)) {
            return WRONG_NUMBER;
        }
        int best = 0;
        int most = -1;
        for (int h = 0; h < DAY_HOURS; h++) {
            Town town = startThought();
            town.turnHour(p, h);
            int together = town.passHours(DAY_HOURS);
            if (together > most) {
                most = together;
                best = h;
            }
        }
        return what == 0 ? best : most;
    }

    public int pair(int what) {
        if (!isWithin(what, 0, 1)) {
            return BAD;
        }
        day.live(startThought());
        int best = NONE;
        int most = NONE;
        for (int p = 0; p < now.people; p++) {
            for (int q = p + 1; q < now.people; q++) {
                int both = day.hoursOfBoth(p, q);
                if (both > most) {
                    most = both;
                    best = 10 * p + q;
                }
            }
        }
        return what == 0 ? best : most;
    }

    public long mean(int n, int part) {
        if (!isWithin(n, 1, 48) || !isWithin(part, 0, 1)) {
            return NO;
        }
        return lowestTerms(startThought().passHours(n), n, part);
    }

    public long share(int p, int part) {
        if (!now.has(p) || !isWithin(part, 0, 1)) {
            return NO;
        }
        int all = 0;
        for (int q = 0; q < now.people; q++) {
            all += now.known(q, 1);
        }
        return all == 0 ? NO : lowestTerms(now.known(p, 1), all, part);
    }

    // ---- told strokes

    public int judge(int s) {
        int refusal = refusalOfTold(s);
        if (refusal != 0) {
            return refusal;
        }
        return firstOtherwise(s, startThought());
    }

    public int kinds(int s, int p, int sort) {
        int refusal = refusalOfToldAbout(s, p, sort);
        if (refusal != 0) {
            return refusal;
        }
        int fitting = 0;
        int tried = sort == 0 ? KINDS : 10;
        for (int v = 0; v < tried; v++) {
            Town town = startThought();
            if (sort == 0) {
                town.kind[p] = v;
            } else {
                town.more[p] = v;
            }
            if (firstOtherwise(s, town) == NONE) {
                fitting |= 1 << v;
            }
        }
        return fitting;
    }

    public int nerves(int s, int p, int what) {
        int refusal = refusalOfToldAbout(s, p, what);
        if (refusal != 0) {
            return refusal;
        }
        int fitting = 0;
        int least = NONE;
        for (int v = 0; v <= MOST_NERVE; v++) {
            Town town = startThought();
            town.nerve[p] = v;
            if (firstOtherwise(s, town) == NONE) {
                fitting++;
                least = least == NONE ? v : least;
            }
        }
        return what == 0 ? fitting : least;
    }

    public int turned(int s) {
        int refusal = refusalOfTold(s);
        if (refusal != 0) {
            return refusal;
        }
        int fitting = 0;
        for (int p = 0; p < now.people; p++) {
            Town town = startThought();
            town.turnVow(p);
            if (firstOtherwise(s, town) == NONE) {
                fitting |= 1 << p;
            }
        }
        return fitting;
    }

    public int hours(int s) {
        int refusal = refusalOfTold(s);
        if (refusal != 0) {
            return refusal;
        }
        int fitting = 0;
        for (int h = 0; h < DAY_HOURS; h++) {
            Town town = startThought();
            town.hour = h;
            if (firstOtherwise(s, town) == NONE) {
                fitting |= 1 << h;
            }
        }
        return fitting;
    }

    public int laws(int s) {
        int refusal = refusalOfTold(s);
        if (refusal != 0) {
            return refusal;
        }
        int fitting = 0;
        for (int t = 0; t < textsRead && t < MOST_TEXTS; t++) {
            Town town = startThought();
            town.obey(texts[t], t);
            if (firstOtherwise(s, town) == NONE) {
                fitting |= 1 << t;
            }
        }
        return fitting;
    }

    public int film(int s, int n) {
        if (!isSheet(s)) {
            return BAD;
        }
        if (!isWithin(n, 0, DAY_HOURS)) {
            return WRONG_NUMBER;
        }
        Row row = rows[s];
        row.become(Row.INTS, n);
        Town town = startThought();
        for (int h = 0; h < n; h++) {
            row.write(h, town.passHour(town.liars()));
        }
        return n;
    }

    // ---- crowds by lots

    public int drawn(int seed, int n, int what) {
        if (!isWithin(seed, 0, MOST_SEED) || !isWithin(n, 0, 48) || !isWithin(what, 0, 1)) {
            return BAD;
        }
        return inCrowd(seed, n, what);
    }

    public long odds(int seed, int seeds, int least, int part) {
        if (!isWithin(seed, 0, MOST_SEED) || !isWithin(seeds, 1, 40)
                || !isWithin(least, 0, 9999) || !isWithin(part, 0, 1)) {
            return NO;
        }
        int reaching = 0;
        for (int k = 0; k < seeds; k++) {
            if (inCrowd(seed + k, CROWD_HOURS, 0) >= least) {
                reaching++;
            }
        }
        return lowestTerms(reaching, seeds, part);
    }

    public int image() {
        kept.become(now);
        hasImage = true;
        return kept.people;
    }

    public int back() {
        if (!hasImage) {
            return STATE;
        }
        now.become(kept);
        return now.people;
    }

    // ---- the host

    public int sheet(int s, int sort, int n) {
        if (!isSheet(s) || !isWithin(sort, Row.NO_SORT, Row.INTS)) {
            return BAD;
        }
        if (sort == Row.NO_SORT) {
            rows[s].become(sort, 0);
            return 1;
        }
        if (n > MOST_CELLS) {
            return BAD;
        }
        if (n < 0) {
            return BELOW_ZERO;
        }
        rows[s].become(sort, n);
        return 1;
    }

    public int cell(int s, int i, int v) {
        if (!isSheet(s)) {
            return BAD;
        }
        Row row = rows[s];
        if (row.isMissing()) {
            return MISSING;
        }
        if (!row.has(i, 1)) {
            return OUTSIDE;
        }
        row.write(i, v);
        return 1;
    }

    public int copy(int s, int i, int other, int j, int n) {
        if (!isSheet(s) || !isSheet(other)) {
            return BAD;
        }
        Row from = rows[s];
        Row to = rows[other];
        if (from.isMissing() || to.isMissing()) {
            return MISSING;
        }
        if (from.sort != to.sort) {
            return UNLIKE;
        }
        if (!from.has(i, n) || !to.has(j, n)) {
            return OUTSIDE;
        }
        System.arraycopy(from.cells, i, to.cells, j, n);
        return n;
    }

    public int townBy(int s, int sort, int from, int n) {
        if (!isSheet(s) || !isWithin(sort, Row.BYTES, Row.INTS) || !isWithin(n, 0, MOST_PEOPLE)) {
            return BAD;
        }
        Row row = rows[s];
        if (row.isMissing()) {
            return MISSING;
        }
        if (row.sort != sort) {
            return UNLIKE;
        }
        int came = 0;
        for (int k = 0; k < n; k++) {
            int at = from + 3 * k;
            if (!row.has(at, 3)) {
                return OUTSIDE;
            }
            if (now.join(row.cells[at], row.cells[at + 1], row.cells[at + 2]) >= 0) {
                came++;
            }
        }
        return came;
    }

    public int taken(int i, int kind) {
        if (!isWithin(kind, PERSON, OWN_HOURS)) {
            return BAD;
        }
        if (!isWithin(i, 0, 2 * MOST_PEOPLE - 1)) {
            return OUTSIDE;
        }
        boolean ofHours = i >= MOST_PEOPLE;
        int p = ofHours ? i - MOST_PEOPLE : i;
        if (!now.has(p)) {
            return MISSING;
        }
        if (ofHours) {
            return kind == OWN_HOURS ? now.own[p] : UNLIKE;
        }
        return isKindOf(now.kind[p], kind) ? p : UNLIKE;
    }

    // ---- what the calls share

    private static boolean isWithin(int v, int least, int most) {
        return v >= least && v <= most;
    }

    private static boolean isByte(int v) {
        return isWithin(v, 0, 255);
    }

    private static boolean isSheet(int s) {
        return isWithin(s, 0, MOST_SHEETS - 1);
    }

    private static boolean isKindOf(int kind, int asked) {
        switch (kind) {
            case WAITING: return asked == WAITING || asked == LOVER || asked == PERSON;
            case POET: return asked == POET || asked == TRADER || asked == PERSON;
            default: return asked == kind || asked == PERSON;
        }
    }

    /** The most that put() takes of what it changes, -1 of what it doesn't. */
    private static int mostOf(int what) {
        switch (what) {
            case 0: return MOST_NERVE;
            case 1: return MOST_TOLD;
            case 2: return ALL_HOURS;
            case 3: return 1;
            default: return -1;
        }
    }

    /** Above (part 0) or below the line; below is 1 or more. */
    private static long lowestTerms(long above, long below, int part) {
        long a = above;
        long b = below;
        for (int i = 0; i < 1000 && a != 0; i++) {
            long rest = b % a;
            b = a;
            a = rest;
        }
        if (b == 0) {
            return NO;
        }
        return part == 0 ? above / b : below / b;
    }

    /** The town as it is now, to be lived on without changing it. */
    private Town startThought() {
        thought.become(now);
        return thought;
    }

    /** 0, or why a sheet can't be read as told strokes. */
    private int refusalOfTold(int s) {
        if (!isSheet(s)) {
            return BAD;
        }
        if (rows[s].isMissing()) {
            return MISSING;
        }
        return rows[s].size > DAY_HOURS ? BAD : 0;
    }

    private int refusalOfToldAbout(int s, int p, int what) {
        int refusal = refusalOfTold(s);
        if (refusal != 0) {
            return refusal;
        }
        if (!now.has(p)) {
            return NO_PERSON;
        }
        return isWithin(what, 0, 1) ? 0 : WRONG_NUMBER;
    }

    /** The first number of a sheet that the town, living on, doesn't strike; -1: none. */
    private int firstOtherwise(int s, Town town) {
        Row row = rows[s];
        for (int h = 0; h < row.size && h < MOST_CELLS; h++) {
            if (town.passHour(town.liars()) != row.cells[h]) {
                return h;
            }
        }
        return NONE;
    }

    /** Strikes (what 0) or lies (1) of n hours ahead of each of which a lot turns somebody's vow. */
    private int inCrowd(int seed, int n, int what) {
        Town town = startThought();
        long lot = seed + 1L;
        int strikes = 0;
        int lies = 0;
        for (int h = 0; h < n; h++) {
            lot = lot * 48271L % 2147483647L;
            town.turnVow((int) (lot % 8));
            int liars = town.liars();
            lies += Integer.bitCount(liars);
            strikes += town.passHour(liars);
        }
        return what == 0 ? strikes : lies;
    }

    /** The people, the clock and the law: all that an hour changes or looks at. */
    private static final class Town {
        final int[] kind = new int[MOST_PEOPLE];
        final int[] more = new int[MOST_PEOPLE];
        final int[] nerve = new int[MOST_PEOPLE];
        final int[] told = new int[MOST_PEOPLE];
        final int[] own = new int[MOST_PEOPLE];
        int vows = 0, people = 0, hour = 0, toll = 0, last = 0, lawNumber = 0;
        Text law;

        Town(Text first) {
            law = first;
        }

        void become(Town other) {
            for (int p = 0; p < MOST_PEOPLE; p++) {
                kind[p] = other.kind[p];
                more[p] = other.more[p];
                nerve[p] = other.nerve[p];
                told[p] = other.told[p];
                own[p] = other.own[p];
            }
            vows = other.vows;
            people = other.people;
            hour = other.hour;
            toll = other.toll;
            last = other.last;
            obey(other.law, other.lawNumber);
        }

        void obey(Text text, int number) {
            law = text;
            lawNumber = number;
        }

        boolean has(int p) {
            return p >= 0 && p < people && p < MOST_PEOPLE;
        }

        /** The number of who came, or the refusal. */
        int join(int kindMore, int nerves, int hours) {
            if (!isWithin(kindMore, 0, 10 * KINDS - 1) || !isWithin(nerves, 0, MOST_NERVE)
                    || !isWithin(hours, 0, ALL_HOURS)) {
                return BAD;
            }
            if (people >= MOST_PEOPLE) {
                return FULL;
            }
            int p = people;
            kind[p] = kindMore / 10;
            more[p] = kindMore % 10;
            nerve[p] = nerves;
            told[p] = 0;
            own[p] = hours;
            vows &= ~(1 << p);
            people++;
            return p;
        }

        boolean isVowed(int p) {
            return (vows >> p & 1) == 1;
        }

        void turnVow(int p) {
            if (has(p)) {
                vows ^= 1 << p;
            }
        }

        void turnHour(int p, int h) {
            if (has(p)) {
                own[p] ^= 1 << h;
            }
        }

        /** Nerve (0), lies told (1), own hours (2), vow (3) of one who is there. */
        int known(int p, int what) {
            if (!has(p)) {
                return 0;
            }
            switch (what) {
                case 0: return nerve[p];
                case 1: return told[p];
                case 2: return own[p];
                default: return isVowed(p) ? 1 : 0;
            }
        }

        void change(int p, int what, int v) {
            if (!has(p)) {
                return;
            }
            switch (what) {
                case 0: nerve[p] = v; break;
                case 1: told[p] = v; break;
                case 2: own[p] = v; break;
                default: if (isVowed(p) != (v == 1)) { turnVow(p); } break;
            }
        }

        /** What a name in a text stands for. */
        int named(int step, int p) {
            if (!has(p)) {
                return 0;
            }
            switch (step) {
                case STEP_NERVE: return nerve[p];
                case STEP_TOLD: return Math.min(told[p], MOST_SAID);
                case STEP_HOUR: return hour % DAY_HOURS;
                case STEP_LAST: return last;
                case STEP_PEOPLE: return people;
                default: return more[p];
            }
        }

        boolean isOwnHour(int p) {
            return has(p) && (own[p] >> (hour % DAY_HOURS) & 1) == 1;
        }

        boolean isLoversHour(int p) {
            return isOwnHour(p) || has(p) && hour % DAY_HOURS % 12 == more[p];
        }

        boolean isLying(int p) {
            if (!has(p) || isVowed(p)) {
                return false;
            }
            switch (kind[p]) {
                case LOVER: return isLoversHour(p) && law.says(LIES, this, p) != 0;
                case WAITING: return last > more[p] && isLoversHour(p) && law.says(LIES, this, p) != 0;
                case POET: return isOwnHour(p);
                case MAD: return true;
                default: return isOwnHour(p) && law.says(LIES, this, p) != 0;
            }
        }

        int costOf(int p) {
            if (!has(p)) {
                return 0;
            }
            switch (kind[p]) {
                case LOVER: case WAITING: return law.says(COSTS, this, p) / 2;
                case TRADER: case POET: return last >= 5 ? 0 : law.says(COSTS, this, p);
                default: return law.says(COSTS, this, p);
            }
        }

        int strokesOf(int p) {
            if (!has(p)) {
                return 0;
            }
            switch (kind[p]) {
                case TRADER: return law.says(STROKES, this, p) + more[p];
                case WAITING: return 2 * law.says(STROKES, this, p);
                case POET: return hour % DAY_HOURS % 3 == 0 ? 0 : law.says(STROKES, this, p) + more[p];
                case MAD: return 0;
                default: return law.says(STROKES, this, p);
            }
        }

        /** Who lies now, as bits. */
        int liars() {
            int bits = 0;
            for (int p = 0; p < people; p++) {
                if (isLying(p)) {
                    bits |= 1 << p;
                }
            }
            return bits;
        }

        int strikesOf(int liars) {
            int together = 0;
            for (int p = 0; p < people; p++) {
                if ((liars >> p & 1) == 1) {
                    together += strokesOf(p);
                }
            }
            return together;
        }

        /** The hour goes by, with those who lie in it: its strikes. */
        int passHour(int liars) {
            int strikes = strikesOf(liars);
            for (int p = 0; p < people && p < MOST_PEOPLE; p++) {
                if ((liars >> p & 1) == 1) {
                    nerve[p] = Math.max(0, Math.min(MOST_NERVE, nerve[p] - costOf(p)));
                    told[p] = Math.min(MOST_TOLD, told[p] + 1);
                }
            }
            last = Math.min(MOST_LAST, strikes);
            toll = Math.min(MOST_TOLL, toll + strikes);
            hour++;
            return strikes;
        }

        int passHours(int n) {
            int together = 0;
            for (int h = 0; h < n; h++) {
                together += passHour(liars());
            }
            return together;
        }
    }

    /** The day to come: what each of its hours strikes, and who lies in it. */
    private static final class Day {
        private final int[] strikes = new int[DAY_HOURS];
        private final int[] liars = new int[DAY_HOURS];

        void live(Town town) {
            for (int h = 0; h < DAY_HOURS; h++) {
                liars[h] = town.liars();
                strikes[h] = town.passHour(liars[h]);
            }
        }

        int hoursOf(int strokes) {
            int same = 0;
            for (int h = 0; h < DAY_HOURS; h++) {
                if (strikes[h] == strokes) {
                    same++;
                }
            }
            return same;
        }

        int hoursAlone() {
            int alone = 0;
            for (int h = 0; h < DAY_HOURS; h++) {
                if (hoursOf(strikes[h]) == 1) {
                    alone++;
                }
            }
            return alone;
        }

        int longestRow() {
            int longest = 1;
            int length = 1;
            for (int h = 1; h < DAY_HOURS; h++) {
                length = strikes[h] == strikes[h - 1] ? length + 1 : 1;
                longest = Math.max(longest, length);
            }
            return longest;
        }

        int mostStrikes() {
            int most = 0;
            for (int h = 0; h < DAY_HOURS; h++) {
                most = Math.max(most, strikes[h]);
            }
            return most;
        }

        int firstOf(int strokes) {
            for (int h = 0; h < DAY_HOURS; h++) {
                if (strikes[h] == strokes) {
                    return h;
                }
            }
            return NONE;
        }

        int hoursOfBoth(int p, int q) {
            int both = 0;
            for (int h = 0; h < DAY_HOURS; h++) {
                both += liars[h] >> p & liars[h] >> q & 1;
            }
            return both;
        }
    }

    /** A sheet: a row of numbers of a sort, or missing. */
    private static final class Row {
        static final int NO_SORT = -1, BYTES = 0, SHORTS = 1, INTS = 2;
        final int[] cells = new int[MOST_CELLS];
        int sort = NO_SORT;
        int size = 0;

        void become(int newSort, int newSize) {
            sort = newSort;
            size = newSize;
            for (int i = 0; i < MOST_CELLS; i++) {
                cells[i] = 0;
            }
        }

        boolean isMissing() {
            return sort == NO_SORT;
        }

        /** Whether n places from i on are inside; told without a sum that could wrap. */
        boolean has(int i, int n) {
            return i >= 0 && n >= 0 && i <= size && n <= size - i;
        }

        void write(int i, int v) {
            if (i < 0 || i >= MOST_CELLS) {
                return;
            }
            cells[i] = sort == BYTES ? (byte) v : sort == SHORTS ? (short) v : v;
        }
    }

    /** A text as read: for each part the steps that a stack takes to its value. */
    private static final class Text {
        private final int[] steps = new int[MOST_BYTES];
        private final int[] stack = new int[MOST_BYTES];
        private final int[] ends = new int[PARTS];
        private int size = 0;

        void becomeFirstLaw() {
            empty();
            add(STEP_NERVE);
            endPart(LIES);
            add(1);
            endPart(COSTS);
            add(1);
            endPart(STROKES);
        }

        void empty() {
            size = 0;
        }

        void add(int step) {
            if (size < MOST_BYTES) {
                steps[size] = step;
                size++;
            }
        }

        void endPart(int part) {
            ends[part] = size;
        }

        /** What a part says of one of the town, within its bounds. */
        int says(int part, Town town, int p) {
            if (part < LIES || part > STROKES || !town.has(p)) {
                return 0;
            }
            int top = 0;
            for (int i = part == LIES ? 0 : ends[part - 1]; i < ends[part] && i < MOST_BYTES; i++) {
                int step = steps[i];
                if (step >= STEP_MORE) {
                    if (top >= MOST_BYTES) {
                        return 0;
                    }
                    stack[top] = step >= 0 ? step : town.named(step, p);
                    top++;
                } else if (step == STEP_NOT || step == STEP_MINUS) {
                    if (top < 1) {
                        return 0;
                    }
                    int v = stack[top - 1];
                    stack[top - 1] = step == STEP_MINUS ? -v : v == 0 ? 1 : 0;
                } else {
                    if (top < 2) {
                        return 0;
                    }
                    top--;
                    stack[top - 1] = joined(step, stack[top - 1], stack[top]);
                }
            }
            return Math.max(part == COSTS ? -MOST_SAID : 0, Math.min(MOST_SAID, stack[0]));
        }

        private static int joined(int step, int a, int b) {
            switch (step) {
                case STEP_OR: return a != 0 || b != 0 ? 1 : 0;
                case STEP_AND: return a != 0 && b != 0 ? 1 : 0;
                case STEP_LESS: return a < b ? 1 : 0;
                case STEP_LIKE: return a == b ? 1 : 0;
                case STEP_PLUS: return a + b;
                case STEP_LESSEN: return a - b;
                default: return a * b;
            }
        }
    }

    /** The tape, and how a text is read from it, token by token. */
    private static final class Scribe {
        private final int[] tape = new int[MOST_BYTES];
        int size = 0;
        private int at, start, token, number, fault;

        void add(int b) {
            if (size < MOST_BYTES) {
                tape[size] = b;
                size++;
            }
        }

        /** The place of the fault, -1 without one; the tape is empty then. */
        int readInto(Text text) {
            at = 0;
            fault = -1;
            text.empty();
            step();
            for (int part = LIES; part <= STROKES; part++) {
                expect(TOKEN_LIES + part);
                readEither(text, 0);
                expect(';');
                text.endPart(part);
            }
            if (token != TOKEN_END) {
                fail();
            }
            size = 0;
            return fault;
        }

        private void expect(int wanted) {
            if (token == wanted) {
                step();
            } else {
                fail();
            }
        }

        /** From a fault on no token fits anything, so that all reading ends. */
        private void fail() {
            if (fault < 0) {
                fault = start;
            }
            token = TOKEN_NONE;
        }

        private void readEither(Text text, int open) {
            readBoth(text, open);
            for (int i = 0; i < MOST_BYTES && token == TOKEN_OR; i++) {
                step();
                readBoth(text, open);
                text.add(STEP_OR);
            }
        }

        private void readBoth(Text text, int open) {
            readNot(text, open);
            for (int i = 0; i < MOST_BYTES && token == TOKEN_AND; i++) {
                step();
                readNot(text, open);
                text.add(STEP_AND);
            }
        }

        private void readNot(Text text, int open) {
            if (token == TOKEN_NOT) {
                if (mayOpen(open)) {
                    step();
                    readNot(text, open + 1);
                    text.add(STEP_NOT);
                }
                return;
            }
            readSum(text, open);
            if (token == '<' || token == '=') {
                int step = token == '<' ? STEP_LESS : STEP_LIKE;
                step();
                readSum(text, open);
                text.add(step);
            }
        }

        private void readSum(Text text, int open) {
            readTerm(text, open);
            for (int i = 0; i < MOST_BYTES && (token == '+' || token == '-'); i++) {
                int step = token == '+' ? STEP_PLUS : STEP_LESSEN;
                step();
                readTerm(text, open);
                text.add(step);
            }
        }

        private void readTerm(Text text, int open) {
            readOne(text, open);
            for (int i = 0; i < MOST_BYTES && token == '*'; i++) {
                step();
                readOne(text, open);
                text.add(STEP_TIMES);
            }
        }

        private void readOne(Text text, int open) {
            if (token == TOKEN_NUMBER) {
                text.add(number);
                step();
            } else if (token < 0) {
                text.add(token);
                step();
            } else if (token == '-') {
                if (mayOpen(open)) {
                    step();
                    readOne(text, open + 1);
                    text.add(STEP_MINUS);
                }
            } else if (token == '(') {
                if (mayOpen(open)) {
                    step();
                    readEither(text, open + 1);
                    expect(')');
                }
            } else {
                fail();
            }
        }

        /** A token that opens one more depth is a fault where too many are open. */
        private boolean mayOpen(int open) {
            if (open >= MOST_OPEN) {
                fail();
                return false;
            }
            return true;
        }

        private int byteAt(int i) {
            return i >= 0 && i < size && i < MOST_BYTES ? tape[i] : 0;
        }

        /** The next token, behind blanks. */
        private void step() {
            for (; at < size && (byteAt(at) == 32 || byteAt(at) == 10); at++) { }
            start = at;
            int b = byteAt(at);
            if (at >= size) {
                token = TOKEN_END;
            } else if (isLetter(b)) {
                takeWord();
            } else if (isDigit(b)) {
                takeNumber();
            } else {
                token = isSign(b) ? b : TOKEN_NONE;
                at++;
            }
        }

        private void takeWord() {
            for (; at < size && isLetter(byteAt(at)); at++) { }
            token = TOKEN_NONE;
            for (int i = STEP_MORE; i <= STEP_NERVE; i++) {
                if (isWord(wordOf(i))) {
                    token = i;
                }
            }
            for (int i = TOKEN_LIES; i <= TOKEN_NOT; i++) {
                if (isWord(wordOf(i))) {
                    token = i;
                }
            }
        }

        private void takeNumber() {
            number = 0;
            for (; at < size && isDigit(byteAt(at)); at++) {
                number = number * 10 + byteAt(at) - '0';
            }
            token = at - start > 4 ? TOKEN_NONE : TOKEN_NUMBER;
        }

        private boolean isWord(String word) {
            if (at - start != word.length()) {
                return false;
            }
            for (int i = 0; i < word.length(); i++) {
                if (byteAt(start + i) != word.charAt(i)) {
                    return false;
                }
            }
            return true;
        }

        private static String wordOf(int token) {
            switch (token) {
                case STEP_NERVE: return "nerve";
                case STEP_TOLD: return "told";
                case STEP_HOUR: return "hour";
                case STEP_LAST: return "last";
                case STEP_PEOPLE: return "people";
                case STEP_MORE: return "more";
                case TOKEN_LIES: return "lies";
                case TOKEN_COSTS: return "costs";
                case TOKEN_STROKES: return "strokes";
                case TOKEN_OR: return "or";
                case TOKEN_AND: return "and";
                default: return "not";
            }
        }

        private static boolean isLetter(int b) {
            return b >= 'a' && b <= 'z';
        }

        private static boolean isDigit(int b) {
            return b >= '0' && b <= '9';
        }

        private static boolean isSign(int b) {
            return b == '(' || b == ')' || b == ';' || b == '+' || b == '-' || b == '*' || b == '<' || b == '=';
        }
    }
}

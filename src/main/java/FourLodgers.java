/**
 * The four letters of the compass are lodgers, and ships sail only by one who is up.
 * The promises are numbered in DOC.md; every row is made once, in a constructor, and used again by all calls.
 */
public final class FourLodgers {
    public static final int NONE = -1, UNKNOWN = -101, OUTSIDE = -102, STATE = -103, FULL = -104;

    private static final int LODGERS = 4;
    private static final int FIFTH = 4;
    private static final int STAYS = 5;

    private static final int KINDS = 5;
    private static final int PLAIN = 0;
    private static final int POET = 1;
    private static final int SAILOR = 2;
    private static final int FAMILY = 3;
    private static final int GHOST = 4;

    private static final int WIDTH = 6;
    private static final int CELLS = 36;
    private static final int MOST_SHIPS = 3;
    private static final int MOST_ROCKS = 6;
    private static final int MOST_LETTERS = 40;
    private static final int MOST_SEEN = 6;
    private static final int MOST_SAILS = 999;
    private static final int LAST_DAY = 999;
    private static final int MOST_ILL = 40;
    private static final int NEEDED_ILL = 7;
    private static final int MOST_DRIFT = 60;

    /** How far ahead each question may look, as the greatest DAY from now. */
    private static final int FAR = 40;
    private static final int ASIDE_FAR = 20;
    private static final int SEEN_FAR = 20;
    private static final int COUNTED_DAYS = 28;

    /** What soon() calls the first of the DAYS, and the last one that it tells. */
    private static final int FIRST_HELM = 10;
    private static final int LAST_HELM = 17;

    private final Page page;
    private final Draft draft;
    private final Pilot pilot;
    private final Chart chart;
    private final Moment now;
    private final Moment kept;
    /** For what would be: a copy of now that may be spoilt. */
    private final Moment trial;
    private boolean hasImage;
    private int seasRead;

    public FourLodgers() {
        page = new Page();
        draft = new Draft();
        pilot = new Pilot();
        chart = pilot.chart;
        now = new Moment();
        kept = new Moment();
        trial = new Moment();
        hasImage = false;
        seasRead = 0;
    }

    // ---- the sea

    public int letter(int code) {
        if (code < 1 || code > 126) {
            return OUTSIDE;
        }
        return page.append(code) ? page.size : FULL;
    }

    public int blank() {
        return page.empty();
    }

    public int fault() {
        return draft.read(page);
    }

    public int sea() {
        int readable = draft.read(page);
        if (readable < page.size || !draft.whole) {
            return STATE;
        }
        chart.draw(draft);
        now.begin(draft);
        hasImage = false;
        seasRead++;
        page.empty();
        return chart.shipCount;
    }

    public int lodger(int lodger, int what) {
        if (!namesLodger(lodger)) {
            return UNKNOWN;
        }
        switch (what) {
            case 0: return now.kinds[lodger];
            case 1: return now.illFor(lodger);
            case 2: return asBit(now.isUp(lodger, now.today));
            case 3: return now.kindsFitting(lodger);
            case 4: return now.whenToLook(lodger);
            case 5: return now.daysUp(lodger, COUNTED_DAYS);
            default: return OUTSIDE;
        }
    }

    public int as(int lodger, int kind) {
        if (!namesLodger(lodger)) {
            return UNKNOWN;
        }
        if (!isKind(kind)) {
            return OUTSIDE;
        }
        return isSuch(now.kinds[lodger], kind) ? lodger : NONE;
    }

    public int ship(int ship, int what) {
        if (!namesShip(ship)) {
            return UNKNOWN;
        }
        switch (what) {
            case 0: return now.cells[ship];
            case 1: return asBit(now.hasSailed(ship));
            case 2: return pilot.mayBits(now, ship);
            default: return OUTSIDE;
        }
    }

    public int cell(int cell, int what) {
        if (!namesCell(cell)) {
            return UNKNOWN;
        }
        switch (what) {
            case 0: return asBit(chart.hasRock(cell));
            case 1: return shipsIn(cell);
            default: return OUTSIDE;
        }
    }

    // ---- what is done

    public int sail(int ship, int by) {
        if (!namesShip(ship) || by < 0 || by > FIFTH) {
            return UNKNOWN;
        }
        if ((pilot.mayBits(now, ship) >> by & 1) == 0) {
            return STATE;
        }
        if (now.timesSailed >= MOST_SAILS) {
            return FULL;
        }
        now.sailTo(ship, chart.landing(now.cells[ship], by));
        return now.cells[ship];
    }

    public int day() {
        if (!chart.drawn) {
            return STATE;
        }
        if (now.today >= LAST_DAY) {
            return FULL;
        }
        now.beginNextDay();
        return now.today;
    }

    public int ail(int lodger, int days) {
        if (!namesLodger(lodger)) {
            return UNKNOWN;
        }
        if (days < 0 || days > MOST_ILL) {
            return OUTSIDE;
        }
        int before = now.illFor(lodger);
        now.illUntil[lodger] = now.today + days;
        return before;
    }

    public int let(int lodger, int kind) {
        if (!namesLodger(lodger)) {
            return UNKNOWN;
        }
        if (!isKind(kind)) {
            return OUTSIDE;
        }
        int before = now.kinds[lodger];
        now.kinds[lodger] = kind;
        return before;
    }

    public int hire() {
        if (!chart.drawn) {
            return STATE;
        }
        now.hired = !now.hired;
        return asBit(now.hired);
    }

    // ---- what would be

    public int can(int ship, int cell, int day) {
        if (!namesShip(ship) || !namesCell(cell)) {
            return UNKNOWN;
        }
        if (day < 0 || day > FAR) {
            return OUTSIDE;
        }
        return asBit((pilot.placesAfter(now, ship, day) >> cell & 1) != 0);
    }

    public int soon(int ship, int cell, int what) {
        if (!namesShip(ship) || !namesCell(cell)) {
            return UNKNOWN;
        }
        if (what == 0) {
            return pilot.daysTo(now, ship, cell);
        }
        if (what < FIRST_HELM || what > LAST_HELM) {
            return OUTSIDE;
        }
        return pilot.helmOn(now, ship, cell, what - FIRST_HELM);
    }

    public int meet(int a, int b) {
        if (!namesShip(a) || !namesShip(b) || a == b) {
            return UNKNOWN;
        }
        return pilot.daysToMeet(now, a, b);
    }

    public int needed(int ship, int cell) {
        if (!namesShip(ship) || !namesCell(cell)) {
            return UNKNOWN;
        }
        int most = 0;
        int longest = NONE;
        for (int lodger = 0; lodger < LODGERS; lodger++) {
            int ill = Math.max(now.illUntil[lodger], now.today + NEEDED_ILL);
            int days = endlessIfNone(daysIfIllUntil(lodger, ill, ship, cell));
            if (days > longest) {
                longest = days;
                most = lodger;
            }
        }
        return most;
    }

    public int brick(int ship, int cell) {
        if (!namesShip(ship) || !namesCell(cell)) {
            return UNKNOWN;
        }
        int best = NONE;
        int shortest = endlessIfNone(pilot.daysTo(now, ship, cell));
        for (int lodger = 0; lodger < LODGERS; lodger++) {
            int days = endlessIfNone(daysIfIllUntil(lodger, now.today, ship, cell));
            if (days < shortest) {
                shortest = days;
                best = lodger;
            }
        }
        return best;
    }

    public int aside(int ship, int day) {
        if (!namesShip(ship)) {
            return UNKNOWN;
        }
        if (day < 0 || day > ASIDE_FAR) {
            return OUTSIDE;
        }
        return Long.bitCount(placesIfHired(true, ship, day) & ~placesIfHired(false, ship, day));
    }

    // ---- what is seen

    public int see(int lodger, int day, boolean up) {
        if (!namesLodger(lodger)) {
            return UNKNOWN;
        }
        if (day < 0 || day > SEEN_FAR) {
            return OUTSIDE;
        }
        return now.keepSeen(lodger, day, up) ? now.seenCount : FULL;
    }

    public int forget() {
        int before = now.seenCount;
        now.seenCount = 0;
        return before;
    }

    public int drifts(int days, int seed, int what) {
        if (days < 1 || days > MOST_DRIFT || seed < 0 || what < 0 || what > 2) {
            return OUTSIDE;
        }
        if (!chart.drawn) {
            return STATE;
        }
        trial.copyFrom(now);
        trial.sailedToday = 0;
        trial.timesSailed = 0;
        int last = seed;
        for (int i = 0; i < days; i++) {
            last = pilot.driftForADay(trial, last);
            trial.beginNextDay();
        }
        switch (what) {
            case 0: return trial.timesSailed;
            case 1: return trial.cells[0];
            default: return last;
        }
    }

    // ---- what is told of all

    public int image() {
        if (!chart.drawn) {
            return STATE;
        }
        kept.copyFrom(now);
        hasImage = true;
        return now.today;
    }

    public int restore() {
        if (!hasImage) {
            return STATE;
        }
        now.copyFrom(kept);
        return now.today;
    }

    public int count(int what) {
        switch (what) {
            case 0: return chart.shipCount;
            case 1: return chart.rockCount;
            case 2: return now.today;
            case 3: return asBit(now.hired);
            case 4: return lodgersUp();
            case 5: return lodgersIll();
            case 6: return Integer.bitCount(now.sailedToday);
            case 7: return now.timesSailed;
            case 8: return now.seenCount;
            case 9: return page.size;
            case 10: return seasRead;
            default: return OUTSIDE;
        }
    }

    public long digest() {
        long h = 1229;
        if (chart.drawn) {
            h = digestOfLodgers(h);
            h = digestOfShips(h);
            for (int cell = 0; cell < CELLS; cell++) {
                h = 31 * h + cell(cell, 0);
            }
        }
        for (int i = 0; i < page.size; i++) {
            h = 31 * h + page.letters[i];
        }
        for (int what = 0; what <= 10; what++) {
            h = 31 * h + count(what);
        }
        return h;
    }

    private long digestOfLodgers(long start) {
        long h = start;
        for (int lodger = 0; lodger < LODGERS; lodger++) {
            for (int what = 0; what <= 5; what++) {
                h = 31 * h + lodger(lodger, what);
            }
        }
        return h;
    }

    private long digestOfShips(long start) {
        long h = start;
        for (int ship = 0; ship < chart.shipCount; ship++) {
            for (int what = 0; what <= 2; what++) {
                h = 31 * h + ship(ship, what);
            }
            h = 31 * h + soon(ship, 0, 0);
            h = 31 * h + soon(ship, 0, FIRST_HELM);
            h = 31 * h + soon(ship, CELLS - 1, 0);
            h = 31 * h + soon(ship, CELLS - 1, FIRST_HELM);
            h = 31 * h + needed(ship, 14);
            h = 31 * h + brick(ship, 14);
            h = 31 * h + aside(ship, 9);
        }
        return h;
    }

    private boolean namesLodger(int lodger) {
        return chart.drawn && lodger >= 0 && lodger < LODGERS;
    }

    private boolean namesShip(int ship) {
        return chart.drawn && ship >= 0 && ship < chart.shipCount;
    }

    private boolean namesCell(int cell) {
        return chart.drawn && cell >= 0 && cell < CELLS;
    }

    private static boolean isKind(int kind) {
        return kind >= 0 && kind < KINDS;
    }

    private static boolean isSuch(int kind, int taken) {
        return taken == PLAIN || taken == kind || taken == POET && kind == GHOST;
    }

    private static int asBit(boolean yes) {
        return yes ? 1 : 0;
    }

    /** So that a place which is never come to compares as farther than all others. */
    private static int endlessIfNone(int days) {
        return days == NONE ? Integer.MAX_VALUE : days;
    }

    private int shipsIn(int cell) {
        int bits = 0;
        for (int ship = 0; ship < chart.shipCount; ship++) {
            if (now.cells[ship] == cell) {
                bits |= 1 << ship;
            }
        }
        return bits;
    }

    private int daysIfIllUntil(int lodger, int until, int ship, int cell) {
        trial.copyFrom(now);
        trial.illUntil[lodger] = until;
        return pilot.daysTo(trial, ship, cell);
    }

    private long placesIfHired(boolean hired, int ship, int day) {
        trial.copyFrom(now);
        trial.hired = hired;
        return pilot.placesAfter(trial, ship, day);
    }

    private int lodgersUp() {
        int sum = 0;
        for (int lodger = 0; chart.drawn && lodger < LODGERS; lodger++) {
            sum += asBit(now.isUp(lodger, now.today));
        }
        return sum;
    }

    private int lodgersIll() {
        int sum = 0;
        for (int lodger = 0; lodger < LODGERS; lodger++) {
            sum += asBit(now.isIll(lodger, now.today));
        }
        return sum;
    }

    /** THE PAGE. */
    private static final class Page {
        final int[] letters;
        int size;

        Page() {
            letters = new int[MOST_LETTERS];
            size = 0;
        }

        boolean append(int code) {
            if (size >= MOST_LETTERS) {
                return false;
            }
            letters[size] = code;
            size++;
            return true;
        }

        int empty() {
            int before = size;
            size = 0;
            return before;
        }
    }

    /** What a page tells of a SEA, as far as it can be read; the SEA itself stays as it is meanwhile. */
    private static final class Draft {
        static final String KIND_LETTERS = "lpsfg";
        static final int LODGER_LETTERS = 8;

        final int[] kinds;
        final int[] ills;
        final int[] ships;
        int shipCount;
        long rocks;
        int rockCount;
        boolean amongRocks;
        int row;
        /** Whether the letters read so far are a SEA, and not only the beginning of one. */
        boolean whole;

        Draft() {
            kinds = new int[LODGERS];
            ills = new int[LODGERS];
            ships = new int[MOST_SHIPS];
            clear();
        }

        private void clear() {
            shipCount = 0;
            rocks = 0;
            rockCount = 0;
            amongRocks = false;
            row = 0;
            whole = false;
        }

        /** How many letters of the page can begin a SEA. */
        int read(Page page) {
            clear();
            for (int place = 0; place < page.size; place++) {
                if (!takes(place, page.letters[place])) {
                    return place;
                }
            }
            return page.size;
        }

        private boolean takes(int place, int code) {
            if (place < LODGER_LETTERS) {
                return place % 2 == 0 ? takesKind(place / 2, code) : takesIll(place / 2, code);
            }
            if (place == LODGER_LETTERS) {
                return code == ';';
            }
            // ships and rocks are told alike, so behind the lodgers every third letter is of the same sort
            switch ((place - LODGER_LETTERS - 1) % 3) {
                case 0: return takesRow(code);
                case 1: return takesColumn(code);
                default: return takesMark(code);
            }
        }

        private boolean takesKind(int lodger, int code) {
            int kind = KIND_LETTERS.indexOf((char) code);
            if (kind < 0) {
                return false;
            }
            kinds[lodger] = kind;
            return true;
        }

        private boolean takesIll(int lodger, int code) {
            if (code < '0' || code > '9') {
                return false;
            }
            ills[lodger] = code - '0';
            return true;
        }

        private static boolean isSide(int code) {
            return code >= '0' && code < '0' + WIDTH;
        }

        /** A row with no CELL left for a ROCK is no fault yet: the document names the second digit. */
        private boolean takesRow(int code) {
            if (!isSide(code)) {
                return false;
            }
            row = code - '0';
            return true;
        }

        private boolean takesColumn(int code) {
            if (!isSide(code)) {
                return false;
            }
            int cell = WIDTH * row + code - '0';
            return amongRocks ? takesRock(cell) : takesShip(cell);
        }

        private boolean takesShip(int cell) {
            if (shipCount >= MOST_SHIPS) {
                return false;
            }
            ships[shipCount] = cell;
            shipCount++;
            return true;
        }

        private boolean takesRock(int cell) {
            if (rockCount >= MOST_ROCKS || (rocks >> cell & 1) != 0 || hasShip(cell)) {
                return false;
            }
            rocks |= 1L << cell;
            rockCount++;
            whole = true;
            return true;
        }

        private boolean hasShip(int cell) {
            for (int i = 0; i < shipCount; i++) {
                if (ships[i] == cell) {
                    return true;
                }
            }
            return false;
        }

        private boolean takesMark(int code) {
            whole = false;
            if (code == ',') {
                return amongRocks ? rockCount < MOST_ROCKS : shipCount < MOST_SHIPS;
            }
            if (code == ';' && !amongRocks) {
                amongRocks = true;
                return true;
            }
            return false;
        }
    }

    /** What stays as long as the SEA does, and the moves that it leaves; sets of CELLS are bits of a long. */
    private static final class Chart {
        /** By how much the CELL's number grows when one sails by each of the five. */
        static final int[] STEPS = {-6, 1, 6, -1, 8};
        /** From where each of the five leads to a CELL of the square: two octal digits a row, the north row last. */
        static final long[] LEAVES = {
            0_77_77_77_77_77_00L,
            0_37_37_37_37_37_37L,
            0_00_77_77_77_77_77L,
            0_76_76_76_76_76_76L,
            0_00_17_17_17_17_17L
        };

        boolean drawn;
        long rocks;
        int rockCount;
        int shipCount;

        Chart() {
            drawn = false;
            rocks = 0;
            rockCount = 0;
            shipCount = 0;
        }

        void draw(Draft draft) {
            drawn = true;
            rocks = draft.rocks;
            rockCount = draft.rockCount;
            shipCount = draft.shipCount;
        }

        boolean hasRock(int cell) {
            return (rocks >> cell & 1) != 0;
        }

        /** NONE, if that one does not lead to a CELL without a ROCK. */
        int landing(int cell, int by) {
            return movedBy(1L << cell, by) == 0 ? NONE : cell + STEPS[by];
        }

        long movedBy(long places, int by) {
            int step = STEPS[by];
            long leaving = places & LEAVES[by];
            return (step < 0 ? leaving >>> -step : leaving << step) & ~rocks;
        }

        private long broughtBy(long places, int by) {
            int step = STEPS[by];
            long entered = places & ~rocks;
            return (step < 0 ? entered << -step : entered >>> step) & LEAVES[by];
        }

        /** Where a ship can be at the end of a DAY on which these are up. */
        long spread(long places, int up) {
            long reached = places;
            for (int by = 0; by <= FIFTH; by++) {
                if ((up >> by & 1) != 0) {
                    reached |= movedBy(places, by);
                }
            }
            return reached;
        }

        /** From where a ship can come to these places on a DAY on which these are up. */
        long spreadBack(long places, int up) {
            long origins = places;
            for (int by = 0; by <= FIFTH; by++) {
                if ((up >> by & 1) != 0) {
                    origins |= broughtBy(places, by);
                }
            }
            return origins;
        }
    }

    /** All that an IMAGE keeps. */
    private static final class Moment {
        final int[] kinds;
        final int[] illUntil;
        final int[] cells;
        int sailedToday;
        int today;
        boolean hired;
        int timesSailed;
        int seenCount;
        final int[] seenLodger;
        /** Counted from the DAY that it is when KINDS or LOOK are asked, so no DAY of the SEA stands here. */
        final int[] seenDay;
        final int[] seenUp;

        Moment() {
            kinds = new int[LODGERS];
            illUntil = new int[LODGERS];
            cells = new int[MOST_SHIPS];
            seenLodger = new int[MOST_SEEN];
            seenDay = new int[MOST_SEEN];
            seenUp = new int[MOST_SEEN];
        }

        void begin(Draft draft) {
            System.arraycopy(draft.kinds, 0, kinds, 0, LODGERS);
            System.arraycopy(draft.ills, 0, illUntil, 0, LODGERS);
            System.arraycopy(draft.ships, 0, cells, 0, MOST_SHIPS);
            sailedToday = 0;
            today = 0;
            hired = false;
            timesSailed = 0;
            seenCount = 0;
        }

        void copyFrom(Moment other) {
            System.arraycopy(other.kinds, 0, kinds, 0, LODGERS);
            System.arraycopy(other.illUntil, 0, illUntil, 0, LODGERS);
            System.arraycopy(other.cells, 0, cells, 0, MOST_SHIPS);
            System.arraycopy(other.seenLodger, 0, seenLodger, 0, MOST_SEEN);
            System.arraycopy(other.seenDay, 0, seenDay, 0, MOST_SEEN);
            System.arraycopy(other.seenUp, 0, seenUp, 0, MOST_SEEN);
            sailedToday = other.sailedToday;
            today = other.today;
            hired = other.hired;
            timesSailed = other.timesSailed;
            seenCount = other.seenCount;
        }

        boolean hasSailed(int ship) {
            return (sailedToday >> ship & 1) != 0;
        }

        void sailTo(int ship, int cell) {
            cells[ship] = cell;
            sailedToday |= 1 << ship;
            timesSailed++;
        }

        void beginNextDay() {
            today++;
            sailedToday = 0;
        }

        int illFor(int lodger) {
            return Math.max(0, illUntil[lodger] - today);
        }

        boolean isIll(int lodger, int day) {
            return day < illUntil[lodger];
        }

        boolean isUp(int lodger, int day) {
            return kindIsUp(kinds[lodger], isIll(lodger, day), day);
        }

        static boolean kindIsUp(int kind, boolean ill, int day) {
            switch (kind) {
                case POET: return !ill && day % 2 == 1;
                case SAILOR: return !ill && day % 3 != 0;
                case FAMILY: return true;
                case GHOST: return !ill && day % 2 == 1 || day % 4 == 0;
                default: return !ill;
            }
        }

        /** By whom of the five a ship is free to sail on a DAY from now: by none today, if it sailed. */
        int upFor(int ship, int fromNow) {
            if (fromNow == 0 && hasSailed(ship)) {
                return 0;
            }
            int day = today + fromNow;
            int bits = hired && day % 7 == 3 ? 1 << FIFTH : 0;
            for (int lodger = 0; lodger < LODGERS; lodger++) {
                if (kindIsUp(kinds[lodger], isIll(lodger, day), day)) {
                    bits |= 1 << lodger;
                }
            }
            return bits;
        }

        int daysUp(int lodger, int days) {
            int sum = 0;
            for (int i = 0; i < days; i++) {
                if (isUp(lodger, today + i)) {
                    sum++;
                }
            }
            return sum;
        }

        boolean keepSeen(int lodger, int day, boolean up) {
            if (seenCount >= MOST_SEEN) {
                return false;
            }
            seenLodger[seenCount] = lodger;
            seenDay[seenCount] = day;
            seenUp[seenCount] = asBit(up);
            seenCount++;
            return true;
        }

        int kindsFitting(int lodger) {
            int bits = (1 << KINDS) - 1;
            for (int i = 0; i < seenCount; i++) {
                if (seenLodger[i] == lodger) {
                    int up = kindsUp(lodger, seenDay[i]);
                    bits &= seenUp[i] == 1 ? up : ~up;
                }
            }
            return bits;
        }

        /** The KINDS that would be up on a DAY from now, if the lodger was one of them. */
        private int kindsUp(int lodger, int fromNow) {
            int day = today + fromNow;
            boolean ill = isIll(lodger, day);
            int bits = 0;
            for (int kind = 0; kind < KINDS; kind++) {
                if (kindIsUp(kind, ill, day)) {
                    bits |= 1 << kind;
                }
            }
            return bits;
        }

        int whenToLook(int lodger) {
            int fitting = kindsFitting(lodger);
            if (fitting == 0) {
                return NONE;
            }
            int best = NONE;
            int fewest = KINDS + 1;
            for (int day = 0; day <= SEEN_FAR; day++) {
                int up = kindsUp(lodger, day);
                int left = Math.max(Integer.bitCount(fitting & up), Integer.bitCount(fitting & ~up));
                if (left < fewest) {
                    fewest = left;
                    best = day;
                }
            }
            return best;
        }
    }

    /** Where ships can come to on a chart, at the moment that is asked about. */
    private static final class Pilot {
        final Chart chart;
        /** For each DAY from now, from where the goal can still be reached in time. */
        final long[] origins;

        Pilot() {
            chart = new Chart();
            origins = new long[FAR + 2];
        }

        int mayBits(Moment moment, int ship) {
            int up = moment.upFor(ship, 0);
            int bits = 0;
            for (int by = 0; by <= FIFTH; by++) {
                if ((up >> by & 1) != 0 && chart.landing(moment.cells[ship], by) != NONE) {
                    bits |= 1 << by;
                }
            }
            return bits;
        }

        long placesAfter(Moment moment, int ship, int lastFromNow) {
            long places = 1L << moment.cells[ship];
            for (int day = 0; day <= lastFromNow; day++) {
                places = chart.spread(places, moment.upFor(ship, day));
            }
            return places;
        }

        int daysTo(Moment moment, int ship, int cell) {
            long places = 1L << moment.cells[ship];
            for (int days = 0; days <= FAR; days++) {
                if ((places >> cell & 1) != 0) {
                    return days;
                }
                places = chart.spread(places, moment.upFor(ship, days));
            }
            return (places >> cell & 1) != 0 ? FAR + 1 : NONE;
        }

        int daysToMeet(Moment moment, int a, int b) {
            long placesA = 1L << moment.cells[a];
            long placesB = 1L << moment.cells[b];
            for (int days = 0; days <= FAR; days++) {
                if ((placesA & placesB) != 0) {
                    return days;
                }
                placesA = chart.spread(placesA, moment.upFor(a, days));
                placesB = chart.spread(placesB, moment.upFor(b, days));
            }
            return (placesA & placesB) != 0 ? FAR + 1 : NONE;
        }

        /** By whom the ship sails on a DAY from now, on the first by numbers of its soonest ways. */
        int helmOn(Moment moment, int ship, int cell, int fromNow) {
            int days = daysTo(moment, ship, cell);
            if (fromNow >= days) {
                return NONE;
            }
            traceBack(moment, ship, cell, days);
            int at = moment.cells[ship];
            int by = STAYS;
            for (int day = 0; day <= fromNow; day++) {
                by = firstHelm(at, moment.upFor(ship, day), origins[day + 1]);
                at = by == STAYS ? at : chart.landing(at, by);
            }
            return by;
        }

        private void traceBack(Moment moment, int ship, int cell, int days) {
            origins[days] = 1L << cell;
            for (int day = days - 1; day >= 0; day--) {
                origins[day] = chart.spreadBack(origins[day + 1], moment.upFor(ship, day));
            }
        }

        private int firstHelm(int at, int up, long goals) {
            for (int by = 0; by <= FIFTH; by++) {
                if ((up >> by & 1) != 0 && (chart.movedBy(1L << at, by) & goals) != 0) {
                    return by;
                }
            }
            return STAYS;
        }

        /** Moves the moment's ships by draws, and tells the last SEED. */
        int driftForADay(Moment moment, int seed) {
            int last = seed;
            for (int ship = 0; ship < chart.shipCount; ship++) {
                last = nextSeed(last);
                int by = last / 65536 % 5;
                if ((mayBits(moment, ship) >> by & 1) != 0) {
                    moment.sailTo(ship, chart.landing(moment.cells[ship], by));
                }
            }
            return last;
        }

        private static int nextSeed(int seed) {
            return (int) ((1103515245L * seed + 12345L) & 0x7FFFFFFFL);
        }
    }
}

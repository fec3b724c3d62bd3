/** Moons of a planet that wanders through a far light, as ../shared/DOC.md promises them. */
public final class WanderingMoons {
    public static final int NONE = -1;
    public static final int LOST = -1000000;
    public static final int SYNTAX_ERROR = -2;
    public static final int VALUE_ERROR = -3;
    public static final int UNKNOWN = -4;
    public static final int TWICE = -5;
    public static final int MISFIT = -6;
    public static final int TOO_MANY = -7;

    private static final int REFUSED_FULL = -11;
    private static final int REFUSED_TWICE = -12;
    private static final int REFUSED_MISFIT = -13;

    private static final int LAST_TIME = 1000000;
    private static final int LONGEST_SEARCH = 5000;
    private static final int LONGEST_TABLE = 2000;
    private static final int FARTHEST_OFF = 400;
    private static final int LOST_BURDEN = 401;
    private static final int WIDEST_TRIAL = 10;
    private static final int HIGHEST_DRIFT = 999;
    private static final int HIGHEST_DIRECTION = 359;
    private static final int HIGHEST_PLANET = 999;

    /** In the order in which they are preferred when their burdens are alike. */
    private static final int[] SHIFTS = {0, -1, 1, -2, 2, -3, 3};

    private static final int CIRCLE_DEGREES = 360;
    private static final int CIRCLE = 36000;
    private static final int HALF_CIRCLE = 18000;
    private static final int QUARTER_CIRCLE = 9000;

    private static final int MOST_MOONS = 6;
    private static final int MOST_SIGHTS = 30;
    private static final int MOST_CHANGES = 8;
    private static final int MOST_SAVED = 2;
    private static final int MOST_BYTES = 600;
    private static final int MOST_LETTERS = 8;
    private static final int MOST_WRITTEN = 20;
    /** A time of 7 digits, a kind of 4 letters, a name of 8 letters, two spaces and a comma. */
    private static final int LONGEST_ENTRY = 22;
    /** Far above the events that any table holds and above any burden. */
    private static final int ENDLESS = 1000000;

    private static final int HALF_AXIS = 0;
    private static final int FLATNESS = 1;
    private static final int NEAREST = 2;
    private static final int PERIOD = 3;
    private static final int START = 4;
    private static final int RADIUS = 5;
    private static final int MOON_NUMBERS = 6;
    private static final int[] LOWEST = {2, 0, 0, 8, 0, 0};
    private static final int[] HIGHEST = {9999, 60, 359, 99999, 359, 99};

    private static final int SIGHT_MOON = 0;
    private static final int SIGHT_KIND = 1;
    private static final int SIGHT_TIME = 2;
    private static final int SIGHT_NUMBERS = 3;

    private static final int DARK = 0;
    private static final int LIT = 1;
    private static final int CAST = 2;
    private static final int OFF = 3;
    private static final int KINDS = 4;

    private final Sky present = new Sky();
    private final Sky draft = new Sky();
    private final Past past = new Past();
    private final Sky[] saved = new Sky[MOST_SAVED];
    private final SkyReader reader = new SkyReader();
    private final TableText written = new TableText();
    private final Table table = new Table();
    private final Spot spot = new Spot();
    private final Spot otherSpot = new Spot();

    public WanderingMoons() {
    }

    // ---- setup

    public int append(int a, int b, int c, int d, int e) throws IllegalStateException {
        int more = bytesIn(a) + bytesIn(b) + bytesIn(c) + bytesIn(d) + bytesIn(e);
        if (reader.length + more > MOST_BYTES) {
            throw new IllegalStateException();
        }
        reader.addBytes(a);
        reader.addBytes(b);
        reader.addBytes(c);
        reader.addBytes(d);
        reader.addBytes(e);
        return reader.length;
    }

    public int load() {
        int error = reader.readSky(draft);
        if (error != 0) {
            return error;
        }
        acceptDraft();
        return present.moonCount;
    }

    public int read() {
        draft.copyFrom(present);
        int error = reader.readSights(draft);
        if (error != 0) {
            return error;
        }
        acceptDraft();
        return present.sightCount;
    }

    public int errorPosition() {
        return reader.errorAt;
    }

    public int count(int what) throws IllegalArgumentException {
        switch (what) {
            case 0: return present.planetRadius;
            case 1: return present.direction;
            case 2: return present.drift;
            case 3: return present.moonCount;
            case 4: return present.sightCount;
            case 5: return lostSights();
            default: throw new IllegalArgumentException();
        }
    }

    public int moon(int moon, int what) throws IndexOutOfBoundsException, IllegalArgumentException {
        requireMoon(moon);
        requireBetween(what, 0, MOON_NUMBERS + 1);
        if (what == MOON_NUMBERS) {
            return present.sightsOf(moon);
        }
        return what < MOON_NUMBERS ? present.moonNumber(moon, what) : burdenOf(present, moon);
    }

    public int sight(int sight, int what) throws IndexOutOfBoundsException, IllegalArgumentException {
        requireSight(sight);
        requireBetween(what, 0, SIGHT_NUMBERS);
        return what < SIGHT_NUMBERS ? present.sightNumber(sight, what) : offOf(present, sight);
    }

    // ---- angles and places

    public int sine(int angle) {
        return sineOf(angle);
    }

    public int light(int time) throws IllegalArgumentException {
        requireTime(time, 0);
        return Math.floorMod(lightAngle(present.direction, present.drift, time), CIRCLE);
    }

    public int place(int moon, int time, int what) throws IndexOutOfBoundsException, IllegalArgumentException {
        lookAt(moon, time);
        requireBetween(what, 0, 3);
        if (what < 2) {
            return what == 0 ? spot.x : spot.y;
        }
        return what == 2 ? spot.ahead : spot.aside;
    }

    public long far(int moon, int time) throws IndexOutOfBoundsException, IllegalArgumentException {
        lookAt(moon, time);
        return (long) spot.x * spot.x + (long) spot.y * spot.y;
    }

    // ---- shadows and meetings

    public int state(int moon, int time) throws IndexOutOfBoundsException, IllegalArgumentException {
        lookAt(moon, time);
        return spot.shadowState();
    }

    public boolean casts(int moon, int time) throws IndexOutOfBoundsException, IllegalArgumentException {
        lookAt(moon, time);
        return spot.castsShadow();
    }

    public int shadedBy(int moon, int time) throws IndexOutOfBoundsException, IllegalArgumentException {
        lookAt(moon, time);
        int shading = 0;
        for (int other = 0; other < present.moonCount; other++) {
            otherSpot.aim(present, other);
            otherSpot.look(time);
            if (spot.isShadedBy(otherSpot)) {
                shading |= 1 << other;
            }
        }
        return shading;
    }

    public int whyLit(int moon, int time) throws IndexOutOfBoundsException, IllegalArgumentException {
        lookAt(moon, time);
        if (spot.shadowState() != 0) {
            return 0;
        }
        return spot.ahead < 0 ? 2 : 1;
    }

    public int meeting(int moon, int other, int from) throws IndexOutOfBoundsException, IllegalArgumentException {
        requireMoon(moon);
        requireMoon(other);
        requireTime(from, 0);
        if (moon == other) {
            return NONE;
        }
        spot.aim(present, moon);
        otherSpot.aim(present, other);
        int last = searchEnd(from);
        for (int time = from; time <= last; time++) {
            spot.look(time);
            otherSpot.look(time);
            if (spot.meets(otherSpot)) {
                return time;
            }
        }
        return NONE;
    }

    public int ticks(int moon, int from, int to, int state)
            throws IndexOutOfBoundsException, IllegalArgumentException {
        requireMoon(moon);
        requireTime(from, 0);
        requireBetween(to, from, searchEnd(from));
        requireBetween(state, 0, 2);
        spot.aim(present, moon);
        int found = 0;
        for (int time = from; time <= to; time++) {
            spot.look(time);
            if (spot.shadowState() == state) {
                found++;
            }
        }
        return found;
    }

    public int darkest(int from, int to) throws IllegalArgumentException {
        requireTable(from, to, 0);
        int best = NONE;
        int most = 0;
        for (int time = from; time <= to; time++) {
            int dark = darkMoons(time);
            if (dark > most) {
                most = dark;
                best = time;
            }
        }
        return best;
    }

    // ---- events

    public int next(int moon, int kind, int from) throws IndexOutOfBoundsException, IllegalArgumentException {
        requireMoon(moon);
        requireBetween(kind, 0, KINDS - 1);
        requireTime(from, 1);
        spot.aim(present, moon);
        int last = searchEnd(from);
        int before = spot.conditionsAt(from - 1);
        for (int time = from; time <= last; time++) {
            int now = spot.conditionsAt(time);
            if (hasKind(now & ~before, kind)) {
                return time;
            }
            before = now;
        }
        return NONE;
    }

    public int events(int from, int to) throws IllegalArgumentException {
        requireTable(from, to, 1);
        table.begin(present, from, to);
        int found = 0;
        while (found < ENDLESS && table.advance(present)) {
            found++;
        }
        return found;
    }

    public int event(int from, int to, int place, int what)
            throws IllegalArgumentException, IndexOutOfBoundsException {
        requireTable(from, to, 1);
        requireBetween(what, 0, 2);
        if (!findEvent(from, to, place)) {
            throw new IndexOutOfBoundsException();
        }
        if (what == 0) {
            return table.time;
        }
        return what == 1 ? table.moon : table.kind;
    }

    public double meanDark(int moon, int from, int to) throws IndexOutOfBoundsException, IllegalArgumentException {
        requireMoon(moon);
        requireTable(from, to, 1);
        spot.aim(present, moon);
        int sum = 0;
        int found = 0;
        int darkSince = NONE;
        int before = spot.conditionsAt(from - 1);
        for (int time = from; time <= to; time++) {
            int now = spot.conditionsAt(time);
            int begins = now & ~before;
            if (hasKind(begins, DARK)) {
                darkSince = time;
            }
            if (hasKind(begins, LIT) && darkSince != NONE) {
                sum += time - darkSince;
                found++;
            }
            before = now;
        }
        return found > 0 ? (double) sum / (double) found : 0.0;
    }

    // ---- what was seen

    public int worst() {
        int worst = NONE;
        int farthest = -1;
        for (int sight = 0; sight < present.sightCount; sight++) {
            int off = offOf(present, sight);
            if (off != LOST && Math.abs(off) > farthest) {
                farthest = Math.abs(off);
                worst = sight;
            }
        }
        return worst;
    }

    public int burden(int moon, int degrees) throws IndexOutOfBoundsException, IllegalArgumentException {
        requireMoon(moon);
        requireBetween(degrees, -WIDEST_TRIAL, WIDEST_TRIAL);
        draftTurned(moon, degrees);
        return burdenOf(draft, moon);
    }

    public int bestShift(int moon) throws IndexOutOfBoundsException {
        requireMoon(moon);
        return bestDegrees(moon);
    }

    // ---- changes

    public int see(int moon, int kind, int time) throws IndexOutOfBoundsException, IllegalArgumentException {
        requireMoon(moon);
        requireBetween(kind, 0, KINDS - 1);
        requireTime(time, 1);
        if (present.sightCount >= MOST_SIGHTS) {
            return REFUSED_FULL;
        }
        if (present.hasSight(moon, kind, time)) {
            return REFUSED_TWICE;
        }
        draft.copyFrom(present);
        draft.addSight(moon, kind, time);
        acceptDraft();
        return present.sightCount - 1;
    }

    public int forget(int sight) throws IndexOutOfBoundsException {
        requireSight(sight);
        draft.copyFrom(present);
        draft.dropSight(sight);
        acceptDraft();
        return present.sightCount;
    }

    public int setMoon(int moon, int what, int value) throws IndexOutOfBoundsException, IllegalArgumentException {
        requireMoon(moon);
        requireBetween(what, 0, MOON_NUMBERS - 1);
        requireBetween(value, lowestOf(what), highestOf(what));
        draft.copyFrom(present);
        draft.putMoonNumber(moon, what, value);
        if (!draft.moonFits(moon)) {
            return REFUSED_MISFIT;
        }
        int before = present.moonNumber(moon, what);
        acceptDraft();
        return before;
    }

    public int setLight(int direction, int drift) throws IllegalArgumentException {
        requireBetween(direction, 0, HIGHEST_DIRECTION);
        requireBetween(drift, -HIGHEST_DRIFT, HIGHEST_DRIFT);
        int before = present.direction;
        draft.copyFrom(present);
        draft.direction = direction;
        draft.drift = drift;
        acceptDraft();
        return before;
    }

    public int shift(int moon) throws IndexOutOfBoundsException {
        requireMoon(moon);
        draftTurned(moon, bestDegrees(moon));
        acceptDraft();
        return burdenOf(present, moon);
    }

    public int undo() throws IllegalStateException {
        if (past.count < 1) {
            throw new IllegalStateException();
        }
        past.bringBack(present);
        return past.count;
    }

    public void save(int slot) throws IndexOutOfBoundsException {
        requireSlot(slot);
        keepIn(saved, slot, present);
    }

    public int restore(int slot) throws IndexOutOfBoundsException, IllegalStateException {
        requireSlot(slot);
        Sky kept = skyIn(saved, slot);
        if (kept == null) {
            throw new IllegalStateException();
        }
        draft.copyFrom(kept);
        acceptDraft();
        return present.moonCount;
    }

    // ---- texts

    public int writeTable(int from, int to) throws IllegalArgumentException {
        requireTable(from, to, 1);
        written.length = 0;
        table.begin(present, from, to);
        for (int k = 0; k < MOST_WRITTEN && table.advance(present); k++) {
            if (k > 0) {
                written.addByte(',');
            }
            written.addNumber(table.time);
            written.addByte(' ');
            written.addWord(kindWord(table.kind));
            written.addByte(' ');
            written.addName(present.nameOf(table.moon));
        }
        return written.length;
    }

    public int writtenByte(int index) throws IndexOutOfBoundsException {
        if (index < 0 || index >= written.length) {
            throw new IndexOutOfBoundsException();
        }
        return written.byteAt(index);
    }

    // ---- what calls refuse

    private void requireMoon(int moon) {
        if (moon < 0 || moon >= present.moonCount) {
            throw new IndexOutOfBoundsException();
        }
    }

    private void requireSight(int sight) {
        if (sight < 0 || sight >= present.sightCount) {
            throw new IndexOutOfBoundsException();
        }
    }

    private static void requireSlot(int slot) {
        if (slot < 0 || slot >= MOST_SAVED) {
            throw new IndexOutOfBoundsException();
        }
    }

    private static void requireBetween(int value, int lowest, int highest) {
        if (value < lowest || value > highest) {
            throw new IllegalArgumentException();
        }
    }

    private static void requireTime(int time, int first) {
        requireBetween(time, first, LAST_TIME);
    }

    private static void requireTable(int from, int to, int first) {
        requireTime(from, first);
        requireBetween(to, from, Math.min(from + LONGEST_TABLE, LAST_TIME));
    }

    // ---- what calls share

    private static int searchEnd(int from) {
        return Math.min(from + LONGEST_SEARCH, LAST_TIME);
    }

    private void lookAt(int moon, int time) {
        requireMoon(moon);
        requireTime(time, 0);
        spot.aim(present, moon);
        spot.look(time);
    }

    private int darkMoons(int time) {
        int dark = 0;
        for (int moon = 0; moon < present.moonCount; moon++) {
            spot.aim(present, moon);
            spot.look(time);
            if (spot.shadowState() != 0) {
                dark++;
            }
        }
        return dark;
    }

    private boolean findEvent(int from, int to, int wanted) {
        table.begin(present, from, to);
        for (int k = 0; k < wanted; k++) {
            if (!table.advance(present)) {
                return false;
            }
        }
        return wanted >= 0 && table.advance(present);
    }

    private int lostSights() {
        int lost = 0;
        for (int sight = 0; sight < present.sightCount; sight++) {
            if (offOf(present, sight) == LOST) {
                lost++;
            }
        }
        return lost;
    }

    private int burdenOf(Sky sky, int moon) {
        int sum = 0;
        for (int sight = 0; sight < sky.sightCount; sight++) {
            if (sky.sightNumber(sight, SIGHT_MOON) == moon) {
                int off = offOf(sky, sight);
                sum += off == LOST ? LOST_BURDEN : Math.abs(off);
            }
        }
        return sum;
    }

    private void draftTurned(int moon, int degrees) {
        draft.copyFrom(present);
        draft.turnStart(moon, degrees);
    }

    private int bestDegrees(int moon) {
        int best = 0;
        int least = ENDLESS;
        for (int k = 0; k < SHIFTS.length; k++) {
            draftTurned(moon, SHIFTS[k]);
            int burden = burdenOf(draft, moon);
            if (burden < least) {
                least = burden;
                best = SHIFTS[k];
            }
        }
        return best;
    }

    /** Looks from the sight's time to both sides at once, so that the first event found is the nearest. */
    private int offOf(Sky sky, int sight) {
        spot.aim(sky, sky.sightNumber(sight, SIGHT_MOON));
        int kind = sky.sightNumber(sight, SIGHT_KIND);
        int time = sky.sightNumber(sight, SIGHT_TIME);
        int early = spot.conditionsAt(time);
        int late = early;
        for (int away = 0; away <= FARTHEST_OFF; away++) {
            if (time - away >= 1) {
                int before = spot.conditionsAt(time - away - 1);
                if (hasKind(early & ~before, kind)) {
                    return -away;
                }
                early = before;
            }
            if (away > 0 && time + away <= LAST_TIME) {
                int now = spot.conditionsAt(time + away);
                if (hasKind(now & ~late, kind)) {
                    return away;
                }
                late = now;
            }
        }
        return LOST;
    }

    private void acceptDraft() {
        past.keep(present);
        present.copyFrom(draft);
    }

    private static Sky skyIn(Sky[] row, int index) {
        return index >= 0 && index < row.length ? row[index] : null;
    }

    private static void keepIn(Sky[] row, int index, Sky sky) {
        if (index < 0 || index >= row.length) {
            return;
        }
        Sky kept = row[index];
        if (kept == null) {
            kept = new Sky();
            row[index] = kept;
        }
        kept.copyFrom(sky);
    }

    private static boolean hasKind(int kinds, int kind) {
        return (kinds >> kind & 1) != 0;
    }

    private static int lowestOf(int what) {
        return what >= 0 && what < LOWEST.length ? LOWEST[what] : 0;
    }

    private static int highestOf(int what) {
        return what >= 0 && what < HIGHEST.length ? HIGHEST[what] : 0;
    }

    private static String kindWord(int kind) {
        switch (kind) {
            case DARK: return "dark";
            case LIT: return "lit";
            case CAST: return "cast";
            default: return "off";
        }
    }

    private static int bytesIn(int four) {
        int found = 0;
        for (int bits = 24; bits >= 0; bits -= 8) {
            if ((four >> bits & 255) != 0) {
                found++;
            }
        }
        return found;
    }

    private static int lightAngle(int direction, int drift, int time) {
        return 100 * direction + drift * time;
    }

    private static int sineOf(int angle) {
        int turned = angle % CIRCLE;
        if (turned < 0) {
            turned += CIRCLE;
        }
        boolean negative = turned > HALF_CIRCLE;
        long part = negative ? turned - HALF_CIRCLE : turned;
        long product = part * (HALF_CIRCLE - part);
        long divisor = 405000000L - product;
        int size = divisor > 0 ? (int) (40000L * product / divisor) : 0;
        return negative ? -size : size;
    }

    /** All that a change can change, so that a copy of it is all that undoing, saving and trying need. */
    private static final class Sky {
        int planetRadius = 10;
        int direction;
        int drift;
        int moonCount;
        int sightCount;
        private final long[] names = new long[MOST_MOONS];
        private final int[] moonNumbers = new int[MOST_MOONS * MOON_NUMBERS];
        private final int[] sightNumbers = new int[MOST_SIGHTS * SIGHT_NUMBERS];

        void copyFrom(Sky other) {
            planetRadius = other.planetRadius;
            direction = other.direction;
            drift = other.drift;
            moonCount = other.moonCount;
            sightCount = other.sightCount;
            for (int k = 0; k < names.length && k < other.names.length; k++) {
                names[k] = other.names[k];
            }
            copyNumbers(other.moonNumbers, moonNumbers);
            copyNumbers(other.sightNumbers, sightNumbers);
        }

        private static void copyNumbers(int[] from, int[] to) {
            for (int k = 0; k < from.length && k < to.length; k++) {
                to[k] = from[k];
            }
        }

        void empty() {
            direction = 0;
            drift = 0;
            moonCount = 0;
            sightCount = 0;
        }

        int moonNumber(int moon, int what) {
            int index = moon * MOON_NUMBERS + what;
            return index >= 0 && index < moonNumbers.length ? moonNumbers[index] : 0;
        }

        void putMoonNumber(int moon, int what, int value) {
            int index = moon * MOON_NUMBERS + what;
            if (index >= 0 && index < moonNumbers.length) {
                moonNumbers[index] = value;
            }
        }

        boolean moonFits(int moon) {
            int nearest = moonNumber(moon, HALF_AXIS) * (100 - moonNumber(moon, FLATNESS)) / 100;
            return nearest > planetRadius + moonNumber(moon, RADIUS);
        }

        void turnStart(int moon, int degrees) {
            int start = Math.floorMod(moonNumber(moon, START) + degrees, CIRCLE_DEGREES);
            putMoonNumber(moon, START, start);
        }

        long nameOf(int moon) {
            return moon >= 0 && moon < names.length ? names[moon] : 0;
        }

        void putName(int moon, long name) {
            if (moon >= 0 && moon < names.length) {
                names[moon] = name;
            }
        }

        int moonNamed(long name) {
            for (int moon = 0; moon < moonCount; moon++) {
                if (nameOf(moon) == name) {
                    return moon;
                }
            }
            return NONE;
        }

        int sightNumber(int sight, int what) {
            int index = sight * SIGHT_NUMBERS + what;
            return index >= 0 && index < sightNumbers.length ? sightNumbers[index] : 0;
        }

        private void putSightNumber(int sight, int what, int value) {
            int index = sight * SIGHT_NUMBERS + what;
            if (index >= 0 && index < sightNumbers.length) {
                sightNumbers[index] = value;
            }
        }

        int sightsOf(int moon) {
            int found = 0;
            for (int sight = 0; sight < sightCount; sight++) {
                if (sightNumber(sight, SIGHT_MOON) == moon) {
                    found++;
                }
            }
            return found;
        }

        boolean hasSight(int moon, int kind, int time) {
            for (int sight = 0; sight < sightCount; sight++) {
                if (sightNumber(sight, SIGHT_MOON) == moon && sightNumber(sight, SIGHT_KIND) == kind
                        && sightNumber(sight, SIGHT_TIME) == time) {
                    return true;
                }
            }
            return false;
        }

        void addSight(int moon, int kind, int time) {
            putSightNumber(sightCount, SIGHT_MOON, moon);
            putSightNumber(sightCount, SIGHT_KIND, kind);
            putSightNumber(sightCount, SIGHT_TIME, time);
            sightCount++;
        }

        void dropSight(int dropped) {
            for (int sight = dropped; sight < sightCount - 1; sight++) {
                for (int what = 0; what < SIGHT_NUMBERS; what++) {
                    putSightNumber(sight, what, sightNumber(sight + 1, what));
                }
            }
            sightCount--;
        }
    }

    /** One moon in the light: it is aimed at a moon once, and looks then where this moon is at any time. */
    private static final class Spot {
        int x;
        int y;
        int ahead;
        int aside;
        private int planetSize;
        private int moonSize;
        private int direction;
        private int drift;
        private long halfAxis;
        private int flatness;
        private int width;
        private long nearestSine;
        private long nearestCosine;
        private int period;
        private int start;

        void aim(Sky sky, int moon) {
            planetSize = 100 * sky.planetRadius;
            moonSize = 100 * sky.moonNumber(moon, RADIUS);
            direction = sky.direction;
            drift = sky.drift;
            halfAxis = sky.moonNumber(moon, HALF_AXIS);
            flatness = sky.moonNumber(moon, FLATNESS);
            width = widthOf(flatness);
            int nearest = 100 * sky.moonNumber(moon, NEAREST);
            nearestSine = sineOf(nearest);
            nearestCosine = sineOf(nearest + QUARTER_CIRCLE);
            period = sky.moonNumber(moon, PERIOD);
            start = 100 * sky.moonNumber(moon, START);
        }

        private static int widthOf(int flatness) {
            int square = 10000 - flatness * flatness;
            int width = 100;
            while (width > 0 && width * width > square) {
                width--;
            }
            return width;
        }

        void look(int time) {
            int angle = angleAt(time);
            long along = halfAxis * (sineOf(angle + QUARTER_CIRCLE) - 100 * flatness) / 100;
            long across = halfAxis * width * sineOf(angle) / 10000;
            x = (int) ((along * nearestCosine - across * nearestSine) / 10000);
            y = (int) ((along * nearestSine + across * nearestCosine) / 10000);
            int light = lightAngle(direction, drift, time);
            long lightSine = sineOf(light);
            long lightCosine = sineOf(light + QUARTER_CIRCLE);
            ahead = (int) ((x * lightCosine + y * lightSine) / 10000);
            aside = (int) ((y * lightCosine - x * lightSine) / 10000);
        }

        private int angleAt(int time) {
            long turned = period > 0 ? (long) CIRCLE * time / period : 0;
            int mean = (int) ((start + turned) % CIRCLE);
            int angle = mean;
            for (int k = 0; k < 6; k++) {
                int better = mean + flatness * sineOf(angle) * 573 / 100000;
                // an angle that stays once stays for good: the rest of the six would not change it
                if (better == angle) {
                    return angle;
                }
                angle = better;
            }
            return angle;
        }

        int shadowState() {
            if (ahead >= 0) {
                return 0;
            }
            int beside = Math.abs(aside);
            // first of the two: a moon without a radius may be wholly dark where none is partly dark
            if (beside + moonSize <= planetSize) {
                return 2;
            }
            return beside < planetSize + moonSize ? 1 : 0;
        }

        boolean castsShadow() {
            return ahead > 0 && Math.abs(aside) < planetSize + moonSize;
        }

        boolean isShadedBy(Spot other) {
            return other.ahead > ahead && Math.abs(aside - other.aside) < moonSize + other.moonSize;
        }

        boolean meets(Spot other) {
            long together = (long) x * other.x + (long) y * other.y;
            long apart = Math.abs((long) x * other.y - (long) y * other.x);
            return together > 0 && together >= 50 * apart;
        }

        /** A bit for each kind whose event began what is so now: an event is a bit that was not there a tick before. */
        int conditionsAt(int time) {
            look(time);
            int shadow = shadowState() != 0 ? 1 << DARK : 1 << LIT;
            int cast = castsShadow() ? 1 << CAST : 1 << OFF;
            return shadow | cast;
        }
    }

    /** Goes through the table of two times, event by event, so that no call keeps a whole table. */
    private static final class Table {
        int time;
        int moon;
        int kind;
        private final Spot spot = new Spot();
        private int first;
        private int moons;
        private int step;
        private int steps;
        private int waiting;
        private int before;

        void begin(Sky sky, int from, int to) {
            first = from;
            moons = sky.moonCount;
            step = 0;
            steps = (to - from + 1) * moons;
            waiting = 0;
            before = 0;
            for (int k = 0; k < moons; k++) {
                spot.aim(sky, k);
                before |= spot.conditionsAt(from - 1) << KINDS * k;
            }
        }

        boolean advance(Sky sky) {
            for (; waiting == 0 && step < steps && moons > 0; step++) {
                moon = step % moons;
                time = first + step / moons;
                waiting = kindsBeginning(sky);
            }
            if (waiting == 0) {
                return false;
            }
            kind = firstWaiting();
            waiting &= ~(1 << kind);
            return true;
        }

        private int firstWaiting() {
            for (int k = 0; k < KINDS; k++) {
                if (hasKind(waiting, k)) {
                    return k;
                }
            }
            return 0;
        }

        private int kindsBeginning(Sky sky) {
            int bits = KINDS * moon;
            int old = before >> bits & 15;
            spot.aim(sky, moon);
            int now = spot.conditionsAt(time);
            before ^= (old ^ now) << bits;
            return now & ~old;
        }
    }

    /** The skies before the latest changes; the newest ones lie over the oldest ones. */
    private static final class Past {
        int count;
        private int end;
        private final Sky[] skies = new Sky[MOST_CHANGES];

        void keep(Sky sky) {
            keepIn(skies, end, sky);
            end = (end + 1) % MOST_CHANGES;
            count = Math.min(count + 1, MOST_CHANGES);
        }

        void bringBack(Sky sky) {
            end = (end + MOST_CHANGES - 1) % MOST_CHANGES;
            count--;
            Sky kept = skyIn(skies, end);
            if (kept != null) {
                sky.copyFrom(kept);
            }
        }
    }

    /** The text buffer and the reading of it; each token that is tried leaves its first byte in tokenAt. */
    private static final class SkyReader {
        int length;
        int errorAt = NONE;
        private final char[] bytes = new char[MOST_BYTES];
        private int at;
        private int tokenAt;
        private int error;
        private int number;
        private long name;

        void addBytes(int four) {
            for (int bits = 24; bits >= 0; bits -= 8) {
                int value = four >> bits & 255;
                if (value != 0 && length >= 0 && length < bytes.length) {
                    bytes[length] = (char) value;
                    length++;
                }
            }
        }

        /** Answers 0 or the error code; the buffer is empty then. */
        int readSky(Sky sky) {
            begin();
            sky.empty();
            if (takePlanet(sky) && takeLight(sky) && takeMoons(sky)) {
                takeSights(sky);
            }
            length = 0;
            return error;
        }

        int readSights(Sky sky) {
            begin();
            takeSights(sky);
            length = 0;
            return error;
        }

        private void begin() {
            at = 0;
            error = 0;
            errorAt = NONE;
        }

        private boolean fail(int code) {
            error = code;
            errorAt = tokenAt;
            return false;
        }

        private boolean takePlanet(Sky sky) {
            if (!takeWord("planet") || !takeNumber(1, HIGHEST_PLANET)) {
                return false;
            }
            sky.planetRadius = number;
            return takeSign(';');
        }

        private boolean takeLight(Sky sky) {
            if (!skipWord("light")) {
                return true;
            }
            if (!takeNumber(0, HIGHEST_DIRECTION)) {
                return false;
            }
            sky.direction = number;
            boolean negative = skipSign('-');
            if (!takeNumber(0, HIGHEST_DRIFT)) {
                return false;
            }
            sky.drift = negative ? -number : number;
            return takeSign(';');
        }

        private boolean takeMoons(Sky sky) {
            for (int k = 0; k <= MOST_MOONS && comesWord("moon"); k++) {
                if (!takeMoon(sky)) {
                    return false;
                }
            }
            return true;
        }

        private boolean takeMoon(Sky sky) {
            if (sky.moonCount >= MOST_MOONS) {
                return fail(TOO_MANY);
            }
            if (!takeWord("moon") || !takeName()) {
                return false;
            }
            if (sky.moonNamed(name) != NONE) {
                return fail(TWICE);
            }
            sky.putName(sky.moonCount, name);
            if (!takeMoonNumbers(sky) || !takeSign(';')) {
                return false;
            }
            if (!sky.moonFits(sky.moonCount)) {
                return fail(MISFIT);
            }
            sky.moonCount++;
            return true;
        }

        private boolean takeMoonNumbers(Sky sky) {
            for (int what = HALF_AXIS; what < RADIUS; what++) {
                if (!takeNumber(lowestOf(what), highestOf(what))) {
                    return false;
                }
                sky.putMoonNumber(sky.moonCount, what, number);
            }
            sky.putMoonNumber(sky.moonCount, RADIUS, 1);
            if (!skipWord("wide")) {
                return true;
            }
            if (!takeNumber(lowestOf(RADIUS), highestOf(RADIUS))) {
                return false;
            }
            sky.putMoonNumber(sky.moonCount, RADIUS, number);
            return true;
        }

        private void takeSights(Sky sky) {
            boolean fine = true;
            for (int k = 0; fine && k <= MOST_SIGHTS && !textEnds(); k++) {
                fine = takeSight(sky);
            }
        }

        private boolean takeSight(Sky sky) {
            if (comesWord("seen") && sky.sightCount >= MOST_SIGHTS) {
                return fail(TOO_MANY);
            }
            if (!takeWord("seen") || !takeName()) {
                return false;
            }
            int moon = sky.moonNamed(name);
            if (moon == NONE) {
                return fail(UNKNOWN);
            }
            if (!takeKind()) {
                return false;
            }
            int kind = number;
            if (!takeNumber(1, LAST_TIME)) {
                return false;
            }
            if (sky.hasSight(moon, kind, number)) {
                return fail(TWICE);
            }
            sky.addSight(moon, kind, number);
            return takeSign(';');
        }

        private boolean takeKind() {
            for (int kind = 0; kind < KINDS; kind++) {
                if (skipWord(kindWord(kind))) {
                    number = kind;
                    return true;
                }
            }
            return fail(SYNTAX_ERROR);
        }

        private boolean takeWord(String word) {
            return skipWord(word) || fail(SYNTAX_ERROR);
        }

        private boolean takeSign(char sign) {
            return skipSign(sign) || fail(SYNTAX_ERROR);
        }

        private boolean takeName() {
            skipSpaces();
            int end = wordEnd();
            if (end == at || end - at > MOST_LETTERS) {
                return fail(SYNTAX_ERROR);
            }
            name = 0;
            for (; at < end; at++) {
                name = name << 8 | byteAt(at);
            }
            return true;
        }

        private boolean takeNumber(int lowest, int highest) {
            skipSpaces();
            int value = 0;
            for (; at < length && isDigit(byteAt(at)); at++) {
                // more than any number may be, yet far from what an int can't hold
                value = Math.min(10 * value + byteAt(at) - '0', 10 * LAST_TIME);
            }
            if (at == tokenAt) {
                return fail(SYNTAX_ERROR);
            }
            number = value;
            return value >= lowest && value <= highest || fail(VALUE_ERROR);
        }

        /** Goes behind the word if it comes. */
        private boolean skipWord(String word) {
            boolean comes = comesWord(word);
            if (comes) {
                at += word.length();
            }
            return comes;
        }

        private boolean skipSign(char sign) {
            skipSpaces();
            boolean comes = byteAt(at) == sign;
            if (comes) {
                at++;
            }
            return comes;
        }

        private boolean comesWord(String word) {
            skipSpaces();
            if (wordEnd() - at != word.length()) {
                return false;
            }
            for (int k = 0; k < word.length(); k++) {
                if (byteAt(at + k) != word.charAt(k)) {
                    return false;
                }
            }
            return true;
        }

        private boolean textEnds() {
            skipSpaces();
            return at >= length;
        }

        private void skipSpaces() {
            while (at >= 0 && at < length && at < bytes.length && bytes[at] == ' ') {
                at++;
            }
            tokenAt = at;
        }

        private int wordEnd() {
            int end = at;
            while (end >= 0 && end < length && end < bytes.length && bytes[end] >= 'a' && bytes[end] <= 'z') {
                end++;
            }
            return end;
        }

        private int byteAt(int index) {
            return index >= 0 && index < length && index < bytes.length ? bytes[index] : 0;
        }

        private static boolean isDigit(int sign) {
            return sign >= '0' && sign <= '9';
        }
    }

    /** The text that was written last. */
    private static final class TableText {
        int length;
        private final char[] bytes = new char[MOST_WRITTEN * LONGEST_ENTRY];

        void addByte(char sign) {
            if (length >= 0 && length < bytes.length) {
                bytes[length] = sign;
                length++;
            }
        }

        void addWord(String word) {
            for (int k = 0; k < word.length(); k++) {
                addByte(word.charAt(k));
            }
        }

        void addNumber(int value) {
            for (int unit = LAST_TIME; unit > 0; unit /= 10) {
                if (value >= unit) {
                    addByte((char) ('0' + value / unit % 10));
                }
            }
        }

        void addName(long name) {
            for (int bits = 8 * (MOST_LETTERS - 1); bits >= 0; bits -= 8) {
                int letter = (int) (name >> bits) & 255;
                if (letter != 0) {
                    addByte((char) letter);
                }
            }
        }

        int byteAt(int index) {
            return index >= 0 && index < length && index < bytes.length ? bytes[index] : 0;
        }
    }
}

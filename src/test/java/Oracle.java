import java.util.ArrayDeque;
import java.util.ArrayList;
import java.util.Deque;
import java.util.HashMap;
import java.util.List;
import java.util.Map;
import java.util.TreeMap;

/**
 * The document once more, in another way: whole states that never change, exact sums that would tell an
 * overflow, events looked up one by one. Slow, and of no use but to be compared with the class.
 */
final class Oracle {
    record Moon(String name, List<Integer> numbers) {
        int at(int what) {
            return numbers.get(what);
        }
    }

    record Sight(int moon, int kind, int time) {
    }

    record Sky(int planet, int direction, int drift, List<Moon> moons, List<Sight> sights) {
    }

    record Event(int time, int moon, int kind) {
    }

    private record Look(List<Integer> numbers, int direction, int drift, int time) {
    }

    private static final class Error extends RuntimeException {
        final int code;
        final int position;

        Error(int code, int position) {
            this.code = code;
            this.position = position;
        }
    }

    private static final int END = 1000000;
    private static final String[] KINDS = {"dark", "lit", "cast", "off"};
    private static final int[][] RANGES = {{2, 9999}, {0, 60}, {0, 359}, {8, 99999}, {0, 359}, {0, 99}};
    private static final Map<Look, long[]> SEEN = new HashMap<>();

    private Sky sky = new Sky(10, 0, 0, List.of(), List.of());
    private final Deque<Sky> past = new ArrayDeque<>();
    private final Map<Integer, Sky> saved = new TreeMap<>();
    private String buffer = "";
    private String written = "";
    private int errorPosition = -1;

    // ---- setup

    public int append(int a, int b, int c, int d, int e) {
        StringBuilder more = new StringBuilder(buffer);
        for (int word : new int[] {a, b, c, d, e}) {
            for (byte one : java.nio.ByteBuffer.allocate(4).putInt(word).array()) {
                if (one != 0) {
                    more.append((char) (one & 0xff));
                }
            }
        }
        if (more.length() > 600) {
            throw new IllegalStateException();
        }
        buffer = more.toString();
        return buffer.length();
    }

    public int load() {
        return reading(true) ? sky.moons.size() : lastCode;
    }

    public int read() {
        return reading(false) ? sky.sights.size() : lastCode;
    }

    private int lastCode;

    private boolean reading(boolean whole) {
        Text text = new Text(buffer);
        buffer = "";
        try {
            Sky fresh = whole ? text.sky() : text.sights(sky);
            errorPosition = -1;
            change(fresh);
            return true;
        } catch (Error e) {
            errorPosition = e.position;
            lastCode = e.code;
            return false;
        }
    }

    public int errorPosition() {
        return errorPosition;
    }

    public int count(int what) {
        return switch (what) {
            case 0 -> sky.planet;
            case 1 -> sky.direction;
            case 2 -> sky.drift;
            case 3 -> sky.moons.size();
            case 4 -> sky.sights.size();
            case 5 -> (int) sky.sights.stream().filter(s -> off(sky, s) == -1000000).count();
            default -> throw new IllegalArgumentException();
        };
    }

    public int moon(int moon, int what) {
        known(moon);
        if (what >= 0 && what < 6) {
            return sky.moons.get(moon).at(what);
        }
        within(what, 6, 7);
        return what == 6 ? (int) sky.sights.stream().filter(s -> s.moon == moon).count() : burdenOf(sky, moon);
    }

    public int sight(int sight, int what) {
        if (sight < 0 || sight >= sky.sights.size()) {
            throw new IndexOutOfBoundsException();
        }
        Sight s = sky.sights.get(sight);
        return switch (what) {
            case 0 -> s.moon;
            case 1 -> s.kind;
            case 2 -> s.time;
            case 3 -> off(sky, s);
            default -> throw new IllegalArgumentException();
        };
    }

    // ---- angles and places

    public int sine(int angle) {
        return (int) sin(angle);
    }

    public int light(int time) {
        within(time, 0, END);
        return (int) Math.floorMod(100L * sky.direction + (long) sky.drift * time, 36000L);
    }

    public int place(int moon, int time, int what) {
        known(moon);
        within(time, 0, END);
        within(what, 0, 3);
        return Math.toIntExact(look(sky, moon, time)[what]);
    }

    public long far(int moon, int time) {
        known(moon);
        within(time, 0, END);
        long[] p = look(sky, moon, time);
        return Math.addExact(Math.multiplyExact(p[0], p[0]), Math.multiplyExact(p[1], p[1]));
    }

    // ---- shadows and meetings

    public int state(int moon, int time) {
        known(moon);
        within(time, 0, END);
        return shadow(sky, moon, time);
    }

    public boolean casts(int moon, int time) {
        known(moon);
        within(time, 0, END);
        return casting(sky, moon, time);
    }

    public int shadedBy(int moon, int time) {
        known(moon);
        within(time, 0, END);
        long[] mine = look(sky, moon, time);
        int set = 0;
        for (int k = 0; k < sky.moons.size(); k++) {
            long[] its = look(sky, k, time);
            int radii = sky.moons.get(moon).at(5) + sky.moons.get(k).at(5);
            if (its[2] > mine[2] && Math.abs(mine[3] - its[3]) < 100L * radii) {
                set += 1 << k;
            }
        }
        return set;
    }

    public int whyLit(int moon, int time) {
        if (state(moon, time) > 0) {
            return 0;
        }
        return look(sky, moon, time)[2] < 0 ? 2 : 1;
    }

    public int meeting(int moon, int other, int from) {
        known(moon);
        known(other);
        within(from, 0, END);
        if (moon == other) {
            return -1;
        }
        for (int t = from; t <= END && t - from <= 5000; t++) {
            long[] p = look(sky, moon, t);
            long[] q = look(sky, other, t);
            long dot = p[0] * q[0] + p[1] * q[1];
            if (dot > 0 && dot >= 50 * Math.abs(p[0] * q[1] - p[1] * q[0])) {
                return t;
            }
        }
        return -1;
    }

    public int ticks(int moon, int from, int to, int state) {
        known(moon);
        within(from, 0, END);
        within(to, from, END);
        within(to - from, 0, 5000);
        within(state, 0, 2);
        int n = 0;
        for (int t = from; t <= to; t++) {
            n += shadow(sky, moon, t) == state ? 1 : 0;
        }
        return n;
    }

    public int darkest(int from, int to) {
        span(from, to, 0);
        int best = -1;
        int most = 0;
        for (int t = to; t >= from; t--) {
            int n = 0;
            for (int k = 0; k < sky.moons.size(); k++) {
                n += shadow(sky, k, t) == 0 ? 0 : 1;
            }
            if (n > 0 && n >= most) {
                most = n;
                best = t;
            }
        }
        return best;
    }

    // ---- events

    public int next(int moon, int kind, int from) {
        known(moon);
        within(kind, 0, 3);
        within(from, 1, END);
        for (int t = from; t <= END && t - from <= 5000; t++) {
            if (isEvent(sky, moon, kind, t)) {
                return t;
            }
        }
        return -1;
    }

    public int events(int from, int to) {
        span(from, to, 1);
        return table(from, to).size();
    }

    public int event(int from, int to, int place, int what) {
        span(from, to, 1);
        within(what, 0, 2);
        List<Event> table = table(from, to);
        if (place < 0 || place >= table.size()) {
            throw new IndexOutOfBoundsException();
        }
        Event e = table.get(place);
        return what == 0 ? e.time : what == 1 ? e.moon : e.kind;
    }

    public double meanDark(int moon, int from, int to) {
        known(moon);
        span(from, to, 1);
        List<Integer> lengths = new ArrayList<>();
        int since = -1;
        for (Event e : table(from, to)) {
            if (e.moon == moon && e.kind == 0) {
                since = e.time;
            }
            if (e.moon == moon && e.kind == 1 && since >= 0) {
                lengths.add(e.time - since);
            }
        }
        double sum = lengths.stream().mapToInt(Integer::intValue).sum();
        return lengths.isEmpty() ? 0 : sum / lengths.size();
    }

    // ---- what was seen

    public int worst() {
        int worst = -1;
        for (int k = sky.sights.size() - 1; k >= 0; k--) {
            int size = Math.abs(off(sky, sky.sights.get(k)));
            if (size <= 400 && (worst < 0 || size >= Math.abs(off(sky, sky.sights.get(worst))))) {
                worst = k;
            }
        }
        return worst;
    }

    public int burden(int moon, int degrees) {
        known(moon);
        within(degrees, -10, 10);
        return burdenOf(turned(moon, degrees), moon);
    }

    public int bestShift(int moon) {
        known(moon);
        return java.util.stream.Stream.of(-3, -2, -1, 0, 1, 2, 3)
                .min(java.util.Comparator.<Integer>comparingInt(d -> burdenOf(turned(moon, d), moon))
                        .thenComparingInt(d -> Math.abs(d)).thenComparingInt(d -> d)).get();
    }

    // ---- changes

    public int see(int moon, int kind, int time) {
        known(moon);
        within(kind, 0, 3);
        within(time, 1, END);
        if (sky.sights.size() == 30) {
            return -11;
        }
        Sight fresh = new Sight(moon, kind, time);
        if (sky.sights.contains(fresh)) {
            return -12;
        }
        change(withSights(with(sky.sights, fresh)));
        return sky.sights.size() - 1;
    }

    public int forget(int sight) {
        if (sight < 0 || sight >= sky.sights.size()) {
            throw new IndexOutOfBoundsException();
        }
        List<Sight> rest = new ArrayList<>(sky.sights);
        rest.remove(sight);
        change(withSights(List.copyOf(rest)));
        return rest.size();
    }

    public int setMoon(int moon, int what, int value) {
        known(moon);
        within(what, 0, 5);
        within(value, RANGES[what][0], RANGES[what][1]);
        int before = sky.moons.get(moon).at(what);
        Sky fresh = withMoon(moon, what, value);
        if (!fits(fresh.planet, fresh.moons.get(moon).numbers)) {
            return -13;
        }
        change(fresh);
        return before;
    }

    public int setLight(int direction, int drift) {
        within(direction, 0, 359);
        within(drift, -999, 999);
        int before = sky.direction;
        change(new Sky(sky.planet, direction, drift, sky.moons, sky.sights));
        return before;
    }

    public int shift(int moon) {
        change(turned(moon, bestShift(moon)));
        return burdenOf(sky, moon);
    }

    public int undo() {
        if (past.isEmpty()) {
            throw new IllegalStateException();
        }
        sky = past.pop();
        return past.size();
    }

    public void save(int slot) {
        slotted(slot);
        saved.put(slot, sky);
    }

    public int restore(int slot) {
        slotted(slot);
        if (!saved.containsKey(slot)) {
            throw new IllegalStateException();
        }
        change(saved.get(slot));
        return sky.moons.size();
    }

    // ---- texts

    public int writeTable(int from, int to) {
        span(from, to, 1);
        List<String> entries = new ArrayList<>();
        for (Event e : table(from, to)) {
            if (entries.size() < 20) {
                entries.add(e.time + " " + KINDS[e.kind] + " " + sky.moons.get(e.moon).name);
            }
        }
        written = String.join(",", entries);
        return written.length();
    }

    public int writtenByte(int index) {
        if (index < 0 || index >= written.length()) {
            throw new IndexOutOfBoundsException();
        }
        return written.charAt(index);
    }

    // ---- what the calls above stand on

    private void known(int moon) {
        if (moon < 0 || moon >= sky.moons.size()) {
            throw new IndexOutOfBoundsException();
        }
    }

    private static void slotted(int slot) {
        if (slot != 0 && slot != 1) {
            throw new IndexOutOfBoundsException();
        }
    }

    private static void within(int value, int low, int high) {
        if (!(low <= value && value <= high)) {
            throw new IllegalArgumentException();
        }
    }

    private static void span(int from, int to, int first) {
        within(from, first, END);
        within(to, from, END);
        within(to - from, 0, 2000);
    }

    private void change(Sky fresh) {
        past.push(sky);
        if (past.size() > 8) {
            past.removeLast();
        }
        sky = fresh;
    }

    private static <T> List<T> with(List<T> list, T more) {
        List<T> longer = new ArrayList<>(list);
        longer.add(more);
        return List.copyOf(longer);
    }

    private Sky withSights(List<Sight> sights) {
        return new Sky(sky.planet, sky.direction, sky.drift, sky.moons, sights);
    }

    private Sky withMoon(int moon, int what, int value) {
        List<Integer> numbers = new ArrayList<>(sky.moons.get(moon).numbers);
        numbers.set(what, value);
        List<Moon> moons = new ArrayList<>(sky.moons);
        moons.set(moon, new Moon(moons.get(moon).name, List.copyOf(numbers)));
        return new Sky(sky.planet, sky.direction, sky.drift, List.copyOf(moons), sky.sights);
    }

    private Sky turned(int moon, int degrees) {
        return withMoon(moon, 4, (sky.moons.get(moon).at(4) + degrees + 360) % 360);
    }

    private static boolean fits(int planet, List<Integer> n) {
        return n.get(0) * (100 - n.get(1)) / 100 > planet + n.get(5);
    }

    static long sin(long angle) {
        long a = Math.floorMod(angle, 36000L);
        if (a > 18000) {
            return -sin(a - 18000);
        }
        long p = a * (18000 - a);
        return Math.floorDiv(40000 * p, 405000000 - p);
    }

    private static long cos(long angle) {
        return sin(angle + 9000);
    }

    private static long times(long... factors) {
        long product = 1;
        for (long f : factors) {
            product = Math.multiplyExact(product, f);
        }
        return product;
    }

    /** x, y, ahead, aside. */
    private static long[] look(Sky sky, int moon, int time) {
        if (SEEN.size() > 400000) {
            SEEN.clear();
        }
        Look key = new Look(sky.moons.get(moon).numbers, sky.direction, sky.drift, time);
        return SEEN.computeIfAbsent(key, Oracle::compute);
    }

    private static long[] compute(Look at) {
        long half = at.numbers.get(0);
        long flat = at.numbers.get(1);
        long north = 100L * at.numbers.get(2);
        long mean = (100L * at.numbers.get(4) + 36000L * at.time / at.numbers.get(3)) % 36000;
        long e = mean;
        e = mean + flat * sin(e) * 573 / 100000;
        e = mean + flat * sin(e) * 573 / 100000;
        e = mean + flat * sin(e) * 573 / 100000;
        e = mean + flat * sin(e) * 573 / 100000;
        e = mean + flat * sin(e) * 573 / 100000;
        e = mean + flat * sin(e) * 573 / 100000;
        long w = 0;
        while ((w + 1) * (w + 1) <= 10000 - flat * flat) {
            w++;
        }
        long bigX = times(half, cos(e) - 100 * flat) / 100;
        long bigY = times(half, w, sin(e)) / 10000;
        long x = Math.subtractExact(times(bigX, cos(north)), times(bigY, sin(north))) / 10000;
        long y = Math.addExact(times(bigX, sin(north)), times(bigY, cos(north))) / 10000;
        long l = 100L * at.direction + (long) at.drift * at.time;
        long ahead = (x * cos(l) + y * sin(l)) / 10000;
        long aside = (y * cos(l) - x * sin(l)) / 10000;
        return new long[] {x, y, ahead, aside};
    }

    private static int shadow(Sky sky, int moon, int time) {
        long[] p = look(sky, moon, time);
        long d = Math.abs(p[3]);
        int radius = sky.moons.get(moon).at(5);
        if (!(p[2] < 0)) {
            return 0;
        }
        if (d + 100L * radius <= 100L * sky.planet) {
            return 2;
        }
        return d < 100L * (sky.planet + radius) ? 1 : 0;
    }

    private static boolean casting(Sky sky, int moon, int time) {
        long[] p = look(sky, moon, time);
        return p[2] > 0 && Math.abs(p[3]) < 100L * (sky.planet + sky.moons.get(moon).at(5));
    }

    private static boolean isEvent(Sky sky, int moon, int kind, int t) {
        return switch (kind) {
            case 0 -> shadow(sky, moon, t - 1) == 0 && shadow(sky, moon, t) != 0;
            case 1 -> shadow(sky, moon, t - 1) != 0 && shadow(sky, moon, t) == 0;
            case 2 -> !casting(sky, moon, t - 1) && casting(sky, moon, t);
            default -> casting(sky, moon, t - 1) && !casting(sky, moon, t);
        };
    }

    private List<Event> table(int from, int to) {
        List<Event> all = new ArrayList<>();
        for (int t = from; t <= to; t++) {
            for (int m = 0; m < sky.moons.size(); m++) {
                for (int k = 0; k < 4; k++) {
                    if (isEvent(sky, m, k, t)) {
                        all.add(new Event(t, m, k));
                    }
                }
            }
        }
        return all;
    }

    private static int off(Sky sky, Sight s) {
        int best = -1000000;
        for (int t = Math.min(END, s.time + 400); t >= Math.max(1, s.time - 400); t--) {
            if (isEvent(sky, s.moon, s.kind, t) && Math.abs(t - s.time) <= Math.abs(best)) {
                best = t - s.time;
            }
        }
        return best;
    }

    private static int burdenOf(Sky sky, int moon) {
        int sum = 0;
        for (Sight s : sky.sights) {
            if (s.moon == moon) {
                sum += Math.min(401, Math.abs(off(sky, s)));
            }
        }
        return sum;
    }

    /** The grammar, over the text's tokens. */
    private static final class Text {
        private final String text;
        private final List<String> tokens = new ArrayList<>();
        private final List<Integer> places = new ArrayList<>();
        private int at;

        Text(String text) {
            this.text = text;
            var m = java.util.regex.Pattern.compile("[a-z]+|[0-9]+|[^ ]", java.util.regex.Pattern.DOTALL).matcher(text);
            while (m.find()) {
                tokens.add(m.group());
                places.add(m.start());
            }
        }

        private String token() {
            return at < tokens.size() ? tokens.get(at) : "";
        }

        private int position() {
            return at < tokens.size() ? places.get(at) : text.length();
        }

        private void want(String token) {
            if (!token().equals(token)) {
                throw new Error(-2, position());
            }
            at++;
        }

        private String name() {
            if (!token().matches("[a-z]{1,8}")) {
                throw new Error(-2, position());
            }
            return token();
        }

        private int number(int low, int high) {
            if (!token().matches("[0-9]+")) {
                throw new Error(-2, position());
            }
            var value = new java.math.BigInteger(token());
            if (value.compareTo(java.math.BigInteger.valueOf(low)) < 0
                    || value.compareTo(java.math.BigInteger.valueOf(high)) > 0) {
                throw new Error(-3, position());
            }
            return value.intValue();
        }

        private int taken(int low, int high) {
            int value = number(low, high);
            at++;
            return value;
        }

        Sky sky() {
            want("planet");
            int planet = taken(1, 999);
            want(";");
            int direction = 0;
            int drift = 0;
            if (token().equals("light")) {
                at++;
                direction = taken(0, 359);
                int sign = 1;
                if (token().equals("-")) {
                    sign = -1;
                    at++;
                }
                drift = sign * taken(0, 999);
                want(";");
            }
            List<Moon> moons = new ArrayList<>();
            while (token().equals("moon")) {
                if (moons.size() == 6) {
                    throw new Error(-7, position());
                }
                at++;
                String name = name();
                if (moons.stream().anyMatch(m -> m.name.equals(name))) {
                    throw new Error(-5, position());
                }
                at++;
                List<Integer> numbers = new ArrayList<>();
                for (int k = 0; k < 5; k++) {
                    numbers.add(taken(RANGES[k][0], RANGES[k][1]));
                }
                if (token().equals("wide")) {
                    at++;
                    numbers.add(taken(0, 99));
                } else {
                    numbers.add(1);
                }
                if (token().equals(";") && !fits(planet, numbers)) {
                    throw new Error(-6, position());
                }
                want(";");
                moons.add(new Moon(name, List.copyOf(numbers)));
            }
            return sights(new Sky(planet, direction, drift, List.copyOf(moons), List.of()));
        }

        Sky sights(Sky sky) {
            List<Sight> sights = new ArrayList<>(sky.sights);
            while (at < tokens.size()) {
                if (token().equals("seen") && sights.size() == 30) {
                    throw new Error(-7, position());
                }
                want("seen");
                String name = name();
                int moon = sky.moons.stream().map(Moon::name).toList().indexOf(name);
                if (moon < 0) {
                    throw new Error(-4, position());
                }
                at++;
                int kind = List.of(KINDS).indexOf(token());
                if (kind < 0) {
                    throw new Error(-2, position());
                }
                at++;
                Sight fresh = new Sight(moon, kind, number(1, END));
                if (sights.contains(fresh)) {
                    throw new Error(-5, position());
                }
                at++;
                want(";");
                sights.add(fresh);
            }
            return new Sky(sky.planet, sky.direction, sky.drift, sky.moons, List.copyOf(sights));
        }
    }
}

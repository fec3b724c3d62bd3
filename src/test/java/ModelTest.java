import java.lang.reflect.InvocationTargetException;
import java.lang.reflect.Method;
import java.util.Arrays;
import java.util.HashMap;
import java.util.Map;
import java.util.Random;

/** Long runs of calls, ordinary and wrong ones, on the class and on the Oracle: each answer must be the same. */
public final class ModelTest {
    /** What an object answers after these is free. */
    private static final int MOST_CALLS = 512;
    private static final Map<String, Method> METHODS = new HashMap<>();
    private static final String[] NAMES = {"a", "io", "moon", "seen", "abcdefgh", "dark", "x", "wide", "planet"};
    private static final String[] KINDS = {"dark", "lit", "cast", "off"};
    private static final String[] QUERIES = {"count", "moon", "sight", "sine", "light", "place", "far", "state", "casts",
        "shadedBy", "whyLit", "meeting", "ticks", "darkest", "next", "events", "event", "meanDark", "worst", "burden",
        "bestShift", "writeTable", "writtenByte", "errorPosition"};
    private static final String[] CHANGES = {"see", "see", "see", "forget", "setMoon", "setMoon", "setLight", "shift",
        "undo", "undo", "save", "restore", "read", "load"};

    private final Random random;
    private final WanderingMoons built = new WanderingMoons();
    private final Oracle oracle = new Oracle();
    private final String run;
    private final int most;
    private int calls;

    private ModelTest(long seed) {
        random = new Random(seed);
        run = "run " + seed;
        most = seed % 8 == 0 ? MOST_CALLS : 250;
    }

    public static void main(String[] args) {
        for (String owner : new String[] {"W.", "O."}) {
            Class<?> type = owner.equals("W.") ? WanderingMoons.class : Oracle.class;
            for (Method m : type.getDeclaredMethods()) {
                if (java.lang.reflect.Modifier.isPublic(m.getModifiers())) {
                    METHODS.put(owner + m.getName(), m);
                }
            }
        }
        rounds();
        int runs = args.length > 1 ? Integer.parseInt(args[1]) : 160;
        for (int seed = 1; seed <= runs; seed++) {
            new ModelTest(seed).play();
        }
        Check.end();
    }

    /** All places of a whole round, a hundredth of a degree a tick. */
    private static void rounds() {
        int[] flatness = {0, 1, 7, 28, 45, 60};
        for (int flat : flatness) {
            ModelTest one = null;
            for (int time = 0; time < 36000; time += flat == 60 ? 1 : 11) {
                if (one == null || one.calls > MOST_CALLS - 4) {
                    one = new ModelTest(-flat);
                    one.load("planet 10;light 77 13;moon a 9999 " + flat + " " + 5 * flat + " 36000 0;");
                }
                for (int what = 0; what < 4; what++) {
                    one.both("place", 0, time, what);
                }
            }
        }
    }

    private void play() {
        load(text());
        while (calls < most) {
            int dice = random.nextInt(100);
            if (dice < 60) {
                query();
            } else if (dice < 97) {
                change();
            } else {
                fill(random.nextInt(4) == 0 ? noise() : random.nextBoolean() ? sights() : text());
            }
        }
    }

    private void load(String text) {
        fill(text);
        both("load");
        both("errorPosition");
    }

    private void fill(String text) {
        for (int at = 0; at < text.length(); at += 20) {
            Object[] four = {0, 0, 0, 0, 0};
            for (int k = 0; k < 20 && at + k < text.length(); k++) {
                four[k / 4] = (int) four[k / 4] | text.charAt(at + k) << 24 - 8 * (k % 4);
            }
            both("append", four);
        }
    }

    private void query() {
        String name = QUERIES[random.nextInt(QUERIES.length)];
        switch (name) {
            case "count" -> both(name, less(6));
            case "moon" -> both(name, moon(), less(8));
            case "sight" -> both(name, sight(), less(4));
            case "sine" -> both(name, random.nextBoolean() ? random.nextInt() : random.nextInt(80000) - 40000);
            case "light" -> both(name, time());
            case "place" -> both(name, moon(), time(), less(4));
            case "far", "state", "casts", "shadedBy", "whyLit" -> both(name, moon(), time());
            case "meeting" -> both(name, moon(), moon(), time());
            case "ticks" -> {
                int from = time();
                both(name, moon(), from, until(from, 5000), less(3));
            }
            case "darkest", "events", "writeTable" -> {
                int from = time();
                both(name, from, until(from, 2000));
            }
            case "next" -> both(name, moon(), less(4), time());
            case "event" -> {
                int from = time();
                both(name, from, until(from, 2000), less(30), less(3));
            }
            case "meanDark" -> {
                int from = time();
                both(name, moon(), from, until(from, 2000));
            }
            case "burden" -> both(name, moon(), random.nextInt(23) - 11);
            case "bestShift" -> both(name, moon());
            case "writtenByte" -> both(name, random.nextInt(460) - 2);
            default -> both(name);
        }
    }

    private void change() {
        String name = CHANGES[random.nextInt(CHANGES.length)];
        switch (name) {
            case "see" -> both(name, moon(), less(4), time());
            case "forget" -> both(name, sight());
            case "setMoon" -> {
                int what = less(6);
                both(name, moon(), what, value(what));
            }
            case "setLight" -> both(name, less(360), random.nextInt(2003) - 1001);
            case "shift" -> both(name, moon());
            case "save", "restore" -> both(name, less(2));
            case "read" -> {
                fill(sights());
                both(name);
                both("errorPosition");
            }
            case "load" -> {
                if (random.nextInt(3) == 0) {
                    load(text());
                }
            }
            default -> both(name);
        }
    }

    // ---- arguments, now and then out of their ranges

    /** 0 to bound - 1, rarely one beside it. */
    private int less(int bound) {
        int dice = random.nextInt(40);
        return dice == 0 ? bound : dice == 1 ? -1 : dice == 2 ? random.nextInt() : random.nextInt(bound);
    }

    private int moon() {
        int moons = oracle.count(3);
        return moons == 0 ? random.nextInt(3) - 1 : less(moons);
    }

    private int sight() {
        int sights = oracle.count(4);
        return sights == 0 ? random.nextInt(3) - 1 : less(sights);
    }

    private int time() {
        return switch (random.nextInt(30)) {
            case 0 -> 0;
            case 1 -> 1;
            case 2 -> 1000000;
            case 3 -> 1000001;
            case 4 -> -1;
            case 5, 6 -> 1000000 - random.nextInt(3000);
            case 7, 8 -> random.nextInt(1000001);
            case 9 -> random.nextInt();
            default -> random.nextInt(3000);
        };
    }

    private int until(int from, int longest) {
        return switch (random.nextInt(30)) {
            case 0 -> from - 1;
            case 1 -> from + longest;
            case 2 -> from + longest + 1;
            case 3 -> 1000000;
            default -> from + random.nextInt(400);
        };
    }

    private int value(int what) {
        int[][] ranges = {{2, 9999}, {0, 60}, {0, 359}, {8, 99999}, {0, 359}, {0, 99}};
        if (what < 0 || what > 5) {
            return random.nextInt(100);
        }
        int low = ranges[what][0];
        int high = ranges[what][1];
        return switch (random.nextInt(20)) {
            case 0 -> low - 1;
            case 1 -> high + 1;
            case 2 -> low;
            case 3 -> high;
            case 4, 5, 6, 7, 8, 9 -> Math.min(high, low + random.nextInt(60));
            default -> low + random.nextInt(high - low + 1);
        };
    }

    // ---- texts

    private String text() {
        int planet = random.nextInt(8) == 0 ? random.nextInt(1001) : 1 + random.nextInt(60);
        StringBuilder text = new StringBuilder("planet " + planet + ";");
        if (random.nextBoolean()) {
            int drift = random.nextInt(3) == 0 ? random.nextInt(2001) - 1000 : random.nextInt(61) - 30;
            text.append("light ").append(random.nextInt(361)).append(" ").append(drift).append(";");
        }
        int moons = random.nextInt(20) == 0 ? 7 : random.nextInt(7);
        int first = random.nextInt(NAMES.length);
        for (int k = 0; k < moons; k++) {
            String name = random.nextInt(60) == 0 ? NAMES[first] : NAMES[(first + k) % NAMES.length];
            int half = 2 * planet + 5 + random.nextInt(random.nextBoolean() ? 60 : 2000);
            int flat = random.nextInt(3) == 0 ? 0 : random.nextInt(random.nextBoolean() ? 30 : 61);
            int period = 8 + random.nextInt(random.nextInt(3) == 0 ? 100000 : 300);
            text.append("moon ").append(name).append(' ').append(half).append(' ').append(flat).append(' ')
                    .append(random.nextInt(360)).append(' ').append(period).append(' ').append(random.nextInt(360));
            if (random.nextInt(3) == 0) {
                text.append(" wide ").append(random.nextInt(random.nextInt(4) == 0 ? 101 : 12));
            }
            text.append(';');
        }
        if (random.nextBoolean()) {
            text.append(sights());
        }
        return spoiled(text.toString());
    }

    private String sights() {
        StringBuilder text = new StringBuilder();
        int sights = random.nextInt(random.nextInt(8) == 0 ? 34 : 6);
        for (int k = 0; k < sights && text.length() < 560; k++) {
            String name = NAMES[random.nextInt(random.nextInt(3) == 0 ? NAMES.length : 2)];
            text.append("seen ").append(name).append(' ').append(KINDS[random.nextInt(4)]).append(' ')
                    .append(random.nextInt(8) == 0 ? time() : random.nextInt(900)).append(';');
        }
        return spoiled(text.toString());
    }

    private String noise() {
        StringBuilder text = new StringBuilder();
        for (int k = random.nextInt(300); k > 0; k--) {
            text.append((char) (1 + random.nextInt(255)));
        }
        return text.toString();
    }

    /** Mostly the text itself; else with a byte changed, dropped, put in, or cut off behind it. */
    private String spoiled(String text) {
        if (text.isEmpty() || random.nextInt(3) > 0) {
            return text;
        }
        String bytes = "  ;;-0059azmq#A\t\n" + (char) 200;
        char one = bytes.charAt(random.nextInt(bytes.length()));
        int at = random.nextInt(text.length());
        return switch (random.nextInt(4)) {
            case 0 -> text.substring(0, at);
            case 1 -> text.substring(0, at) + text.substring(at + 1);
            case 2 -> text.substring(0, at) + one + text.substring(at);
            default -> text.substring(0, at) + one + text.substring(at + 1);
        };
    }

    // ---- the comparison

    private void both(String name, Object... values) {
        if (calls >= MOST_CALLS) {
            return;
        }
        calls++;
        String call = run + ", call " + calls + ": " + name + Arrays.toString(values);
        Object due = answer(METHODS.get("O." + name), oracle, values);
        Check.same(call, answer(METHODS.get("W." + name), built, values), due);
    }

    private static Object answer(Method method, Object target, Object[] values) {
        try {
            Object got = method.invoke(target, values);
            return got == null ? "nothing" : got;
        } catch (InvocationTargetException e) {
            return "throws." + e.getCause().getClass().getSimpleName();
        } catch (IllegalAccessException e) {
            throw new IllegalStateException(e);
        }
    }
}

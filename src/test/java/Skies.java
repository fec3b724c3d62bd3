/** Skies made from texts, for the tests. */
final class Skies {
    private Skies() {
    }

    /** Fills the text buffer, 20 bytes a call. */
    static void fill(WanderingMoons sky, String text) {
        for (int at = 0; at < text.length(); at += 20) {
            int[] four = new int[5];
            for (int k = 0; k < 20 && at + k < text.length(); k++) {
                four[k / 4] |= text.charAt(at + k) << 24 - 8 * (k % 4);
            }
            sky.append(four[0], four[1], four[2], four[3], four[4]);
        }
    }

    static int load(WanderingMoons sky, String text) {
        fill(sky, text);
        return sky.load();
    }

    static int read(WanderingMoons sky, String text) {
        fill(sky, text);
        return sky.read();
    }

    static WanderingMoons of(String text) {
        WanderingMoons sky = new WanderingMoons();
        int answer = load(sky, text);
        if (answer < 0) {
            throw new IllegalArgumentException("the test's own sky has the error " + answer + ": " + text);
        }
        return sky;
    }

    /** Everything of a sky that undo brings back, as a text (but the names of its moons). */
    static String picture(WanderingMoons sky) {
        StringBuilder all = new StringBuilder();
        for (int what = 0; what < 5; what++) {
            all.append(sky.count(what)).append(' ');
        }
        for (int moon = 0; moon < sky.count(3); moon++) {
            for (int what = 0; what < 6; what++) {
                all.append(sky.moon(moon, what)).append(what < 5 ? ' ' : ';');
            }
        }
        for (int sight = 0; sight < sky.count(4); sight++) {
            for (int what = 0; what < 3; what++) {
                all.append(sky.sight(sight, what)).append(what < 2 ? ' ' : ';');
            }
        }
        return all.toString();
    }

    /** The first time at which a moon gets dark, by few calls: what an object answers after 512 of them is free. */
    static int darkTime(WanderingMoons sky, int moon) {
        for (int from = 1; from <= 1000000; from += 5001) {
            int time = sky.next(moon, 0, from);
            if (time > 0) {
                return time;
            }
        }
        throw new IllegalStateException("the test's own moon never gets dark");
    }

    static String written(WanderingMoons sky, int length) {
        StringBuilder text = new StringBuilder();
        for (int k = 0; k < length; k++) {
            text.append((char) sky.writtenByte(k));
        }
        return text.toString();
    }
}

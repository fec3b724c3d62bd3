/** Promises 9 to 12: sine, light, place, far. */
public final class PlacesTest {
    private static final String FIVE = "planet 40;light 120 -37;moon io 130 5 20 37 10 wide 3;moon eu 260 30 200 119 300;"
            + "moon ga 477 12 90 263 77 wide 8;moon ca 900 55 310 1201 5 wide 20;moon am 90 0 0 19 181;";

    public static void main(String[] args) {
        sines();
        lights();
        circles();
        ellipses();
        largest();
        turning();
        wrongPlaces();
        fars();
        Check.end();
    }

    private static void sines() {
        WanderingMoons x = new WanderingMoons();
        int[] angles = {0, 1, 2, 3000, 4500, 6000, 9000, 12000, 13500, 17999, 18000, 18001, 18002, 21000, 27000, 35999, 36000,
            36001, 45000, -1, -2, -3000, -9000, -18000, -36000};
        // at 1: 40000 times 17999, divided by (405000000 - 17999), is 1.7778
        int[] dues = {0, 1, 3, 5000, 7058, 8648, 10000, 8648, 7058, 1, 0, -1, -3, -5000, -10000, -1, 0,
            1, 10000, -1, -3, -5000, -10000, 0, 0};
        for (int k = 0; k < angles.length; k++) {
            Check.same("9: sine of " + angles[k], x.sine(angles[k]), dues[k]);
        }
        // 2147483647 is 11647 modulo 36000, -2147483648 is 24352
        Check.same("9: sine of the greatest number", x.sine(Integer.MAX_VALUE), x.sine(11647));
        Check.same("9: sine of the least number", x.sine(Integer.MIN_VALUE), x.sine(24352));
        wholeCircle();
    }

    /** A new sky for each 500 of all angles: what an object answers after 512 calls is free. */
    private static void wholeCircle() {
        WanderingMoons x = new WanderingMoons();
        for (int angle = 0; angle < 36000; angle++) {
            if (angle % 500 == 0) {
                x = new WanderingMoons();
            }
            long part = angle % 18000;
            long product = part * (18000 - part);
            int size = (int) (40000 * product / (405000000 - product));
            Check.same("9: sine of " + angle, x.sine(angle), angle > 18000 ? -size : size);
        }
    }

    private static void lights() {
        WanderingMoons x = Skies.of("planet 10;light 350 7;");
        Check.same("10: at 0", x.light(0), 35000);
        Check.same("10: at 100", x.light(100), 35700);
        Check.same("10: at 143, round the circle", x.light(143), 1);
        Check.same("10: at the end", x.light(1000000), (35000 + 7000000) % 36000);
        x.setLight(1, -999);
        Check.same("10: backwards", x.light(1), 35101);
        Check.same("10: backwards to the end", x.light(1000000), Math.floorMod(100 - 999000000, 36000));
        x.setLight(359, 999);
        Check.same("10: on to the end", x.light(1000000), (35900 + 999000000) % 36000);
        x.setLight(0, -1);
        Check.same("10: exactly once round", x.light(36000), 0);
        Check.argument("10: -1", () -> x.light(-1));
        Check.argument("10: 1000001", () -> x.light(1000001));
    }

    private static void places(WanderingMoons x, int moon, int time, int... due) {
        for (int what = 0; what < 4; what++) {
            Check.same("11: place(" + moon + ", " + time + ", " + what + ")", x.place(moon, time, what), due[what]);
        }
    }

    private static void circles() {
        WanderingMoons x = Skies.of("planet 10;moon a 100 0 0 8 0;moon b 100 0 0 12 30;moon c 100 0 45 8 315;");
        places(x, 0, 0, 10000, 0, 10000, 0);
        places(x, 0, 1, 7058, 7058, 7058, 7058);
        places(x, 0, 2, 0, 10000, 0, 10000);
        places(x, 0, 3, -7058, 7058, -7058, 7058);
        places(x, 0, 4, -10000, 0, -10000, 0);
        places(x, 0, 6, 0, -10000, 0, -10000);
        places(x, 0, 8, 10000, 0, 10000, 0);
        places(x, 0, 1000000, 10000, 0, 10000, 0);
        places(x, 1, 0, 8648, 5000, 8648, 5000);
        places(x, 1, 5, -10000, 0, -10000, 0);
        // 7058 times 7058, twice, divided by 10000: 9963.07, cut off
        places(x, 2, 0, 9963, 0, 9963, 0);
        places(x, 2, 2, 0, 9963, 0, 9963);
    }

    private static void ellipses() {
        WanderingMoons x = Skies.of("planet 10;moon e 100 50 0 8 0 wide 5;moon f 100 50 90 8 180 wide 5;"
                + "moon g 100 60 180 99999 0;");
        places(x, 0, 0, 5000, 0, 5000, 0);
        places(x, 0, 4, -15000, 0, -15000, 0);
        places(x, 1, 0, 0, -15000, 0, -15000);
        places(x, 1, 4, 0, 5000, 0, 5000);
        places(x, 2, 0, -4000, 0, -4000, 0);
        // the square of 99 is less than 9999, E stays at 9057, whose sine is 9999
        Check.same("11: flatness 1", Skies.of("planet 10;moon a 9999 1 0 8 90;").place(0, 0, 1), 989802);
        // 36000 times 7, divided by 99999, is 2
        Check.same("11: angles are cut off", x.place(2, 7, 1), x.place(2, 8, 1));
        // the values of ../shared/tests, for all the rest of section 2
        WanderingMoons five = Skies.of(FIVE);
        places(five, 0, 0, 10574, 6386, 235, -12337);
        places(five, 0, 9999, -7168, 10851, -2926, 12666);
        places(five, 0, 1000000, 9229, 8234, -11491, -4565);
        places(five, 1, 7, -14249, 15590, 20385, 5452);
        places(five, 1, 1000000, 14594, -20925, -6524, 24655);
        places(five, 2, 100, 23899, -46803, -43502, -29483);
        places(five, 3, 0, 35879, -20490, -35659, -20783);
        places(five, 3, 9999, -41512, 121428, 3506, 128233);
        places(five, 3, 1000000, -112076, 64446, 83127, -98968);
        places(five, 4, 7, 6199, -6502, -8619, -2501);
    }

    /** The largest products of all: none of them may go round. */
    private static void largest() {
        WanderingMoons x = Skies.of("planet 1;moon a 9999 60 0 8 180;moon b 9999 0 0 8 90;moon c 9999 60 90 8 180;");
        places(x, 0, 0, -1599840, 0, -1599840, 0);
        places(x, 1, 0, 0, 999900, 0, 999900);
        places(x, 2, 0, 0, -1599840, 0, -1599840);
        Check.same("12: far of a", x.far(0, 0), 1599840L * 1599840L);
        Check.same("12: far of b", x.far(1, 0), 999900L * 999900L);
    }

    private static void turning() {
        WanderingMoons x = Skies.of("planet 10;light 90 0;moon a 100 0 0 8 0;");
        places(x, 0, 0, 10000, 0, 0, -10000);
        places(x, 0, 2, 0, 10000, 10000, 0);
        places(x, 0, 1, 7058, 7058, 7058, -7058);
        x.setLight(30, 0);
        places(x, 0, 0, 10000, 0, 8648, -5000);
        // from 345 degrees, less 15 degrees in two ticks
        x.setLight(345, -750);
        places(x, 0, 2, 0, 10000, -5000, 8648);
    }

    private static void wrongPlaces() {
        WanderingMoons x = Skies.of("planet 10;moon a 100 0 0 8 0;");
        Check.index("11: moon 1", () -> x.place(1, 0, 0));
        Check.index("11: moon -1", () -> x.place(-1, 0, 0));
        Check.argument("11: time -1", () -> x.place(0, -1, 0));
        Check.argument("11: time 1000001", () -> x.place(0, 1000001, 0));
        Check.argument("11: what -1", () -> x.place(0, 0, -1));
        Check.argument("11: what 4", () -> x.place(0, 0, 4));
        Check.index("11: all of it, the moon first", () -> x.place(1, -1, 4));
        Check.index("12: moon 1", () -> x.far(1, 0));
        Check.index("12: moon -1", () -> x.far(-1, 0));
        Check.argument("12: time -1", () -> x.far(0, -1));
        Check.argument("12: time 1000001", () -> x.far(0, 1000001));
        Check.index("12: both, the moon first", () -> x.far(1, -1));
        Check.index("12: no moons", () -> new WanderingMoons().far(0, 0));
    }

    private static void fars() {
        WanderingMoons x = Skies.of(FIVE);
        Check.same("12: far(0, 0)", x.far(0, 0), 152590472L);
        Check.same("12: far(1, 77)", x.far(1, 77), 1139227469L);
        Check.same("12: far(3, 231)", x.far(3, 231), 10433607629L);
        Check.same("12: far(4, 1000000)", x.far(4, 1000000),
                (long) x.place(4, 1000000, 0) * x.place(4, 1000000, 0)
                + (long) x.place(4, 1000000, 1) * x.place(4, 1000000, 1));
    }
}

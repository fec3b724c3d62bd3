/** Sections 1 and 2 of the document: each sentence that names an edge of angles, divisions, times, light and moons. */
public final class AnglesAndMoonsTest {
    private static final String ONE = "planet 10;moon io 100 0 0 8 0;";
    /** A hundredth of a degree a tick: x is its cosine, y its sine. */
    private static final String ROUND = "planet 10;moon a 100 0 0 36000 0;";

    public static void main(String[] args) {
        roundTheCircle();
        upToHalf();
        roundedDown();
        cosines();
        cutOff();
        cutOffInsideOrbit();
        everyTime();
        lightGrows();
        sixMoons();
        smallestMoon();
        turning();
        sixTimes();
        widths();
        fitting();
        Check.end();
    }

    private static void roundTheCircle() {
        WanderingMoons x = new WanderingMoons();
        for (int k = -3; k <= 3; k++) {
            int whole = 36000 * k;
            Check.same("1: modulo 36000, 0 of circle " + k, x.sine(whole), 0);
            Check.same("1: modulo 36000, 1 of circle " + k, x.sine(whole + 1), 1);
            Check.same("1: modulo 36000, 35999 of circle " + k, x.sine(whole + 35999), -1);
            Check.same("1: modulo 36000, greatest of circle " + k, x.sine(whole + 9000), 10000);
            Check.same("1: modulo 36000, least of circle " + k, x.sine(whole + 27000), -10000);
        }
        // 11647 and 24352 modulo 36000
        Check.same("1: the greatest number", x.sine(Integer.MAX_VALUE), 8941);
        Check.same("1: the least number", x.sine(Integer.MIN_VALUE), -8940);
    }

    private static void upToHalf() {
        WanderingMoons x = new WanderingMoons();
        Check.same("1: up to 18000, 17999", x.sine(17999), 1);
        Check.same("1: up to 18000, 18000", x.sine(18000), 0);
        Check.same("1: above 18000, 18001", x.sine(18001), -1);
        Check.same("1: above 18000, 35999", x.sine(35999), -1);
        boolean between = true;
        for (int angle = 0; angle < 36000; angle += 200) {
            between &= x.sine(angle) >= -10000 && x.sine(angle + 36000) <= 10000;
        }
        WanderingMoons y = new WanderingMoons();
        for (int angle = 8900; angle < 9100; angle++) {
            between &= y.sine(angle) <= 10000 && y.sine(angle + 18000) >= -10000;
        }
        Check.same("1: -10000 to 10000", between, true);
    }

    /** At 2 it is 3.56, at 9001 it is 9999.9998: down, and for the other half down and then minus. */
    private static void roundedDown() {
        WanderingMoons x = new WanderingMoons();
        Calls.due("1: rounded down", x, "sine 2", "3", "sine 18002", "-3", "sine -2", "-3", "sine 9001", "9999",
                "sine 8999", "9999", "sine 27001", "-9999", "sine 26999", "-9999");
    }

    private static void cosines() {
        WanderingMoons x = Skies.of(ROUND);
        int[] angles = {0, 1, 2, 4500, 8999, 9000, 9001, 13500, 17999, 18000, 18001, 26999, 27000, 27001, 35998, 35999, 36000};
        for (int angle : angles) {
            Check.same("1: cosine of " + angle, x.place(0, angle, 0), x.sine(angle + 9000));
            Check.same("1: sine of " + angle, x.place(0, angle, 1), x.sine(angle));
        }
        Calls.due("1: cosine", x, "place 0 0 0", "10000", "place 0 8999 0", "1", "place 0 9000 0", "0",
                "place 0 9001 0", "-1", "place 0 18000 0", "-10000", "place 0 27000 0", "0", "place 0 27001 0", "1");
    }

    /** Each of the divisions has a rest here, and what it divides is below 0. */
    private static void cutOff() {
        // 101 times -7058, divided by 100, is -7128.58
        WanderingMoons x = Skies.of("planet 10;moon a 101 0 0 36000 0;");
        Calls.due("1: cut off toward 0", x, "place 0 22500 0", "-7128", "place 0 22500 1", "-7128");
        // -7128 times 7058, twice, divided by 10000, is -10061.9
        WanderingMoons y = Skies.of("planet 10;moon a 101 0 45 36000 0;moon b 101 0 315 36000 0;moon c 101 0 135 36000 0;");
        Calls.due("1: cut off toward 0", y, "place 0 22500 0", "0", "place 0 22500 1", "-10061", "place 1 22500 0", "-10061",
                "place 1 22500 1", "0", "place 2 22500 0", "10061", "place 2 22500 1", "0");
        // 7128 times 8648 and 7128 times 5000: 9728.3 and 2600.29
        x.setLight(210, 0);
        Calls.due("1: cut off toward 0", x, "place 0 4500 2", "-9728", "place 0 4500 3", "-2600");
        x.setLight(30, 0);
        Calls.due("1: cut off toward 0", x, "place 0 4500 2", "9728", "place 0 4500 3", "2600");
        x.setLight(120, 0);
        Calls.due("1: cut off toward 0", x, "place 0 4500 2", "2600", "place 0 4500 3", "-9728");
    }

    /** 1 times the sine of 18002, times 573, divided by 100000, is -0.02: E stays at 18002. */
    private static void cutOffInsideOrbit() {
        WanderingMoons x = Skies.of("planet 10;moon a 9999 1 0 36000 0;");
        Calls.due("1: cut off toward 0 in E", x, "place 0 18002 0", "-1009799", "place 0 18002 1", "-296");
    }

    /** Times are 0 to 1000000, which is 125000 rounds of io: both ends for each call that has a time. */
    private static void everyTime() {
        for (String time : new String[] {"0", "1000000"}) {
            WanderingMoons x = Skies.of(ONE + "moon eu 200 0 0 8 0;");
            Calls.due("2: times are 0 to 1000000", x, "light " + time, "0", "place 0 " + time + " 0", "10000",
                    "far 0 " + time, "100000000", "state 0 " + time, "0", "casts 0 " + time, "true",
                    "shadedBy 0 " + time, "2", "whyLit 0 " + time, "1", "meeting 0 1 " + time, time,
                    "ticks 0 " + time + " " + time + " 0", "1", "darkest " + time + " " + time, "-1");
        }
        for (String time : new String[] {"1", "1000000"}) {
            String kind = time.equals("1") ? "3" : "2";
            WanderingMoons x = Skies.of(ONE);
            Calls.due("4: times of events are 1 to 1000000", x, "next 0 " + kind + " " + time, time,
                    "events " + time + " " + time, "1", "event " + time + " " + time + " 0 0", time,
                    "event " + time + " " + time + " 0 2", kind, "meanDark 0 " + time + " " + time, "0.0",
                    "see 0 " + kind + " " + time, "0", "sight 0 3", "0");
            String due = time.equals("1") ? "1 off io" : "1000000 cast io";
            Check.same("4: times of events are 1 to 1000000, written", x.writeTable(number(time), number(time)), due.length());
            Check.same("4: times of events are 1 to 1000000, written", Skies.written(x, due.length()), due);
        }
    }

    private static int number(String text) {
        return Integer.parseInt(text);
    }

    /** It grows each tick, goes round on both sides, and no product is too large. */
    private static void lightGrows() {
        WanderingMoons x = Skies.of("planet 10;light 359 1;moon a 100 0 0 8 0;");
        Calls.due("2: the light grows", x, "light 0", "35900", "light 99", "35999", "light 100", "0", "light 101", "1");
        x.setLight(0, -1);
        Calls.due("2: the light goes back", x, "light 0", "0", "light 1", "35999", "light 36000", "0", "light 36001", "35999");
        x.setLight(359, 999);
        Calls.due("2: most of all", x, "light 1000000", "35900", "place 0 1000000 2", "9998", "place 0 1000000 3", "177");
        x.setLight(0, -999);
        Calls.due("2: least of all", x, "light 1000000", "0", "light 999999", "999", "place 0 1000000 2", "10000");
        int[] directions = {0, 90, 359};
        int[] drifts = {-999, -1, 999};
        for (int k = 0; k < directions.length; k++) {
            x.setLight(directions[k], drifts[k]);
            for (int time = 0; time <= 1000000; time += 200000) {
                int light = x.light(time);
                Check.same("2: ahead in the light of " + light, x.place(0, time, 2), x.sine(light + 9000));
                Check.same("2: aside in the light of " + light, x.place(0, time, 3), -x.sine(light));
            }
        }
    }

    private static void sixMoons() {
        StringBuilder text = new StringBuilder("planet 10;");
        for (int k = 0; k < 6; k++) {
            text.append("moon ").append((char) ('f' - k)).append(' ').append(100 + k).append(" 0 0 8 0;");
        }
        WanderingMoons x = Skies.of(text.toString());
        for (int k = 0; k < 6; k++) {
            Check.same("2: moons are numbered from 0 as they are told, " + k, x.moon(k, 0), 100 + k);
            Check.same("2: each has its own place, " + k, x.place(k, 8, 0), 100 * (100 + k));
        }
        Calls.due("2: at most 6 moons", x, "moon 6 0", "throws.IndexOutOfBoundsException",
                "moon -1 0", "throws.IndexOutOfBoundsException", "shadedBy 0 0", "62", "shadedBy 5 4", "31");
        Check.same("2: the sixth one is written too", Skies.written(x, x.writeTable(1, 1)),
                "1 off f,1 off e,1 off d,1 off c,1 off b,1 off a");
    }

    private static void smallestMoon() {
        WanderingMoons x = Skies.of("planet 1;moon a 2 0 0 8 0 wide 0;");
        Calls.due("2: the smallest moon", x, "place 0 0 0", "200", "place 0 4 0", "-200", "place 0 2 1", "200",
                "far 0 0", "40000", "state 0 4", "2", "state 0 0", "0", "casts 0 0", "true", "whyLit 0 3", "2",
                "ticks 0 0 7 2", "1", "next 0 0 1", "4");
    }

    /** The last tick of a round, the first one of the next; 36000 times the time is more than an int holds. */
    private static void turning() {
        WanderingMoons x = Skies.of("planet 10;moon a 100 0 0 36000 359;moon b 9999 0 0 99999 0;moon c 9999 0 0 8 359;");
        Calls.due("2: round the circle", x, "place 0 99 1", "-1", "place 0 100 1", "0", "place 0 101 1", "1");
        Calls.due("2: 36000 times the time, divided by the period, is cut off", x, "place 1 2 1", "0", "place 1 3 1", "99",
                "place 1 99998 1", "-99", "place 1 99999 1", "0", "place 1 100001 1", "0", "place 1 100002 1", "99");
        // 36000000000, divided by 99999, is 10 rounds and 3
        Calls.due("2: at the last time", x, "place 1 1000000 0", "999800", "place 1 1000000 1", "499");
        for (int what = 0; what < 2; what++) {
            Check.same("2: as at 0", x.place(2, 1000000, what), x.place(2, 0, what));
            Check.same("2: as 8 ticks before", x.place(2, 999999, what), x.place(2, 7, what));
        }
    }

    /** With five times or seven they would be elsewhere. */
    private static void sixTimes() {
        WanderingMoons x = Skies.of("planet 10;moon a 9999 60 0 36000 0;moon b 9999 50 0 36000 0;moon c 9999 20 0 36000 0;"
                + "moon d 9999 1 0 36000 0;");
        // E is 15, 23, 28, 31, 33, 34, 35
        Calls.due("2: six times", x, "place 0 15 0", "399860", "place 0 15 1", "4959");
        // 34, 51, 59, 63, 65, 66, 67
        Calls.due("2: six times", x, "place 1 34 0", "499850", "place 1 34 1", "10232");
        // 7855, 8977, 9000, 9001, 9000, 9001, 9000
        Calls.due("2: six times", x, "place 2 7855 0", "-199980", "place 2 7855 1", "969903");
        Calls.due("2: six times", x, "place 3 9524 0", "-112288", "place 3 9524 1", "984753");
        // 4014 times 573 is 2300022, and 4363 times 573 is 2499999: 23 and 24
        Calls.due("2: divided by 100000", x, "place 3 2340 0", "905109", "place 3 2340 1", "397445", "place 3 2560 0", "888911",
                "place 3 2560 1", "431893");
    }

    /** Where E is 9000, or so near that its sine is 9999, y is 9999 times W, or less than 9999 below it. */
    private static void widths() {
        int[] due = {100, 99, 99, 99, 99, 99, 99, 99, 99, 99, 99, 99, 99, 99, 99, 98, 98, 98, 98, 98, 97, 97, 97, 97, 97, 96, 96,
            96, 96, 95, 95, 95, 94, 94, 94, 93, 93, 92, 92, 92, 91, 91, 90, 90, 89, 89, 88, 88, 87, 87, 86, 86, 85, 84, 84, 83,
            82, 82, 81, 80, 80};
        WanderingMoons x = Skies.of("planet 10;moon a 9999 0 0 36000 0;");
        for (int flatness = 0; flatness <= 60; flatness++) {
            x.setMoon(0, 1, flatness);
            int time = 9000 - flatness * 573 / 10;
            Check.same("2: W of the flatness " + flatness, (x.place(0, time, 1) + 9998) / 9999, due[flatness]);
        }
    }

    /** The half axis is always greater: for a text, and for each number that can be set. */
    private static void fitting() {
        // 35 times 63, divided by 100, is 22; 36 times 63 is 22.68, 37 times 63 is 23.31
        WanderingMoons x = Skies.of("planet 20;moon a 37 37 0 8 0 wide 2;");
        Calls.due("2: greater than both radii together", x, "setMoon 0 0 36", "-13", "setMoon 0 1 38", "-13",
                "setMoon 0 5 3", "-13", "setMoon 0 5 1", "2", "setMoon 0 0 36", "37", "setMoon 0 0 35", "36",
                "setMoon 0 0 34", "-13", "setMoon 0 5 0", "1", "setMoon 0 0 34", "35", "setMoon 0 0 33", "-13",
                "setMoon 0 1 38", "37", "setMoon 0 1 39", "-13", "undo", "6");
        Check.same("2: what stands", Skies.picture(x), "20 0 0 1 0 34 37 0 8 0 0;");
        WanderingMoons largest = Skies.of("planet 999;moon a 1099 0 0 8 0 wide 99;");
        Calls.due("2: the largest planet", largest, "setMoon 0 0 1098", "-13", "setMoon 0 1 1", "-13", "setMoon 0 0 2748",
                "1099", "setMoon 0 1 60", "0", "setMoon 0 0 2747", "-13");
    }
}

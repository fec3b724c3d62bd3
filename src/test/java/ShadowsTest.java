/** Promises 13 to 19: state, casts, shadedBy, whyLit, meeting, ticks, darkest. */
public final class ShadowsTest {
    private static final String ONE = "planet 10;moon io 100 0 0 8 0;";
    private static final String TWO = "planet 10;moon a 100 0 0 8 0;moon b 200 0 0 16 180;";
    private static final String FIVE = "planet 40;light 120 -37;moon io 130 5 20 37 10 wide 3;moon eu 260 30 200 119 300;"
            + "moon ga 477 12 90 263 77 wide 8;moon ca 900 55 310 1201 5 wide 20;moon am 90 0 0 19 181;";

    public static void main(String[] args) {
        states();
        stateEdges();
        casting();
        shading();
        whyLit();
        meetings();
        meetingEdges();
        meetingsByPlaces();
        ticking();
        darkest();
        refusals();
        Check.end();
    }

    private static void states() {
        WanderingMoons x = Skies.of(ONE);
        for (int time = 0; time < 24; time++) {
            Check.same("13: state at " + time, x.state(0, time), time % 8 == 4 ? 2 : 0);
        }
        Check.same("13: state at the end", x.state(0, 1000000), 0);
        x.setLight(180, 0);
        Check.same("13: the other way round", x.state(0, 0), 2);
        Check.same("13: the other way round, 4", x.state(0, 4), 0);
        WanderingMoons five = Skies.of(FIVE);
        Check.same("13: io at 100", five.state(0, 100), 2);
        Check.same("13: io at 7", five.state(0, 7), 0);
    }

    /** A moon at 150 degrees in the light from 0: aside by 50 times its half axis. */
    private static int stateAside(int half, int radius, int place) {
        return Skies.of("planet 10;moon a " + half + " 0 0 8 " + place + " wide " + radius + ";").state(0, 0);
    }

    private static void stateEdges() {
        Check.same("13: aside by 900, radius 1", stateAside(18, 1, 150), 2);
        Check.same("13: aside by 950, radius 1", stateAside(19, 1, 150), 1);
        Check.same("13: aside by 1050, radius 1", stateAside(21, 1, 150), 1);
        Check.same("13: aside by 1100, radius 1", stateAside(22, 1, 150), 0);
        Check.same("13: aside by -900", stateAside(18, 1, 210), 2);
        Check.same("13: aside by -950", stateAside(19, 1, 210), 1);
        Check.same("13: aside by -1100", stateAside(22, 1, 210), 0);
        Check.same("13: no radius, just wholly dark", stateAside(20, 0, 150), 2);
        Check.same("13: no radius, never partly dark", stateAside(21, 0, 150), 0);
        Check.same("13: radius 99, aside by 10850", stateAside(217, 99, 150), 1);
        Check.same("13: radius 99, aside by 10900", stateAside(218, 99, 150), 0);
        Check.same("13: wider than the planet", stateAside(32, 20, 180), 1);
        Check.same("13: as wide as the planet", stateAside(32, 10, 180), 2);
        Check.same("13: ahead by 0", stateAside(12, 1, 90), 0);
        Check.same("13: ahead", stateAside(12, 1, 0), 0);
    }

    private static boolean castsAside(int half, int radius, int place) {
        return Skies.of("planet 10;moon a " + half + " 0 0 8 " + place + " wide " + radius + ";").casts(0, 0);
    }

    private static void casting() {
        WanderingMoons x = Skies.of(ONE);
        for (int time = 0; time < 24; time++) {
            Check.same("14: casts at " + time, x.casts(0, time), time % 8 == 0);
        }
        Check.same("14: casts at the end", x.casts(0, 1000000), true);
        Check.same("14: aside by 1050", castsAside(21, 1, 30), true);
        Check.same("14: aside by 1100", castsAside(22, 1, 30), false);
        Check.same("14: aside by -1050", castsAside(21, 1, 330), true);
        Check.same("14: aside by -1100", castsAside(22, 1, 330), false);
        Check.same("14: radius 99, aside by 10850", castsAside(217, 99, 30), true);
        Check.same("14: radius 99, aside by 10900", castsAside(218, 99, 30), false);
        Check.same("14: radius 2", castsAside(22, 2, 30), true);
        Check.same("14: behind the planet", castsAside(21, 1, 150), false);
        x.setLight(180, 0);
        Check.same("14: the other way round", x.casts(0, 4), true);
        Check.same("14: the other way round, 0", x.casts(0, 0), false);
    }

    private static void shading() {
        WanderingMoons x = Skies.of(TWO);
        Check.same("15: a at 8", x.shadedBy(0, 8), 2);
        Check.same("15: b at 8", x.shadedBy(1, 8), 0);
        Check.same("15: b at 0, behind the planet too", x.shadedBy(1, 0), 1);
        Check.same("15: a at 2", x.shadedBy(0, 2), 0);
        // all at 30 degrees: aside by 1500, 1650, 1700, and 1700 with radius 2
        WanderingMoons y = Skies.of("planet 10;moon a 30 0 0 8 30;moon b 33 0 0 8 30;moon c 34 0 0 8 30;"
                + "moon d 34 0 0 9 30 wide 2;moon e 12 0 0 8 30 wide 0;moon f 12 0 0 9 30 wide 0;");
        Check.same("15: by b, and by d with its radius", y.shadedBy(0, 0), 0b1010);
        Check.same("15: by c and d", y.shadedBy(1, 0), 0b1100);
        Check.same("15: not by one that is ahead as much", y.shadedBy(2, 0), 0);
        Check.same("15: not by one behind", y.shadedBy(3, 0), 0);
        Check.same("15: two without radius", y.shadedBy(4, 0), 0);
        WanderingMoons z = Skies.of("planet 10;moon a 30 0 0 8 330;moon b 33 0 0 8 330;moon c 34 0 0 8 330;");
        Check.same("15: aside the other way", z.shadedBy(0, 0), 0b10);
        Check.same("15: one moon alone", Skies.of(ONE).shadedBy(0, 0), 0);
        WanderingMoons six = Skies.of("planet 1;moon a 10 0 0 8 0;moon b 11 0 0 8 0;moon c 12 0 0 8 0;moon d 13 0 0 8 0;"
                + "moon e 14 0 0 8 0;moon f 15 0 0 8 0;");
        Check.same("15: all of them", six.shadedBy(0, 0), 0b111110);
        Check.same("15: round the planet", six.shadedBy(5, 4), 0b11111);
    }

    private static void whyLit() {
        WanderingMoons x = Skies.of(ONE);
        int[] due = {1, 1, 1, 2, 0, 2, 1, 1, 1};
        for (int time = 0; time < due.length; time++) {
            Check.same("16: whyLit at " + time, x.whyLit(0, time), due[time]);
        }
        WanderingMoons partly = Skies.of("planet 10;moon a 19 0 0 8 150;");
        Check.same("16: partly dark", partly.whyLit(0, 0), 0);
        WanderingMoons beside = Skies.of("planet 10;moon a 22 0 0 8 150;");
        Check.same("16: just beside", beside.whyLit(0, 0), 2);
        justBehind();
        hardlyAhead();
        WanderingMoons ahead = Skies.of("planet 10;moon a 12 0 0 8 90;");
        Check.same("16: ahead by 0", ahead.whyLit(0, 0), 1);
    }

    private static String seen(WanderingMoons x, int time) {
        return x.place(0, time, 2) + " " + x.place(0, time, 3) + ": " + x.state(0, time) + " " + x.casts(0, time) + " "
                + x.whyLit(0, time);
    }

    /** Sines are a little too small at 45 degrees: a moon just fitting is aside by less than the radii at its side. */
    private static void hardlyAhead() {
        WanderingMoons x = Skies.of("planet 999;moon a 1099 0 23 8 67 wide 99;");
        Check.same("13, 14, 16: ahead by 0", seen(x, 0), "0 109782: 0 false 1");
        WanderingMoons y = Skies.of("planet 999;light 0 1;moon a 1099 0 30 36000 60 wide 99;");
        Check.same("13, 14, 16: ahead by 1", seen(y, 30), "1 109652: 0 true 1");
        Check.same("13, 14, 16: ahead by -1", seen(y, 26), "-1 109656: 1 false 0");
    }

    /** Goes on slowly to the place where it is ahead by less than 0 for the first time, by -1 there. */
    private static void justBehind() {
        WanderingMoons x = Skies.of("planet 1;moon a 3 0 0 99999 89 wide 0;");
        int time = 334;
        Check.same("16: the place before", x.place(0, time - 1, 2), 0);
        Check.same("16: the place", x.place(0, time, 2), -1);
        Check.same("16: ahead by -1", x.whyLit(0, time), 2);
        Check.same("16: a tick before", x.whyLit(0, time - 1), 1);
    }

    /** Whether they meet, told from where they are. */
    private static void meetingsByPlaces() {
        WanderingMoons x = new WanderingMoons();
        for (int time = 0; time < 1500; time++) {
            if (time % 100 == 0) {
                x = Skies.of("planet 10;moon a 100 0 0 3600 0;moon b 200 20 40 3000 350;");
            }
            long ax = x.place(0, time, 0);
            long ay = x.place(0, time, 1);
            long bx = x.place(1, time, 0);
            long by = x.place(1, time, 1);
            long along = ax * bx + ay * by;
            boolean due = along > 0 && along >= 50 * Math.abs(ax * by - ay * bx);
            if (along > 40 * Math.abs(ax * by - ay * bx)) {
                Check.same("17: at " + time, x.meeting(0, 1, time) == time, due);
            }
        }
    }

    private static void meetings() {
        WanderingMoons x = Skies.of(TWO);
        Check.same("17: first", x.meeting(0, 1, 0), 8);
        Check.same("17: the other way", x.meeting(1, 0, 0), 8);
        Check.same("17: from there on", x.meeting(0, 1, 8), 8);
        Check.same("17: the next one", x.meeting(0, 1, 9), 24);
        Check.same("17: the last one of all", x.meeting(0, 1, 999977), 999992 - 999992 % 16 + 8);
        Check.same("17: none behind it", x.meeting(0, 1, 999993), -1);
        Check.same("17: the same one", x.meeting(1, 1, 8), -1);
        Check.same("17: always side by side", Skies.of("planet 10;moon a 100 0 0 8 0;moon b 200 0 0 8 0;")
                .meeting(0, 1, 1000000), 1000000);
        Check.same("17: always on the other side", Skies.of("planet 10;moon a 100 0 0 8 0;moon b 200 0 0 8 180;")
                .meeting(0, 1, 0), -1);
        WanderingMoons five = Skies.of(FIVE);
        Check.same("17: meeting(0, 1, 0)", five.meeting(0, 1, 0), 13);
        Check.same("17: meeting(3, 4, 900)", five.meeting(3, 4, 900), 969);
    }

    private static void meetingEdges() {
        // at 378 they are at (150, -290) and (133, -245): 91000 is 50 times 1820
        WanderingMoons x = Skies.of("planet 1;moon a 3 7 276 100 99 wide 0;moon b 3 10 135 170 78 wide 0;");
        Check.same("17: their place", x.place(1, 378, 0) + " " + x.place(1, 378, 1) + " " + x.place(0, 378, 0) + " "
                + x.place(0, 378, 1), "150 -290 133 -245");
        Check.same("17: exactly 50 times", x.meeting(0, 1, 378), 378);
        // they meet once in 36000 ticks
        WanderingMoons far = Skies.of("planet 10;moon a 100 0 0 36000 0;moon b 100 0 0 18000 300;");
        int meets = 5885;
        Check.same("17: at most 5000 later", far.meeting(0, 1, meets - 5000), meets);
        Check.same("17: not 5001 later", far.meeting(0, 1, meets - 5001), -1);
        Check.same("17: it is the first one", far.meeting(0, 1, meets - 1), meets);
        Check.same("17: from the time itself", far.meeting(0, 1, meets), meets);
    }

    private static void ticking() {
        WanderingMoons x = Skies.of(ONE);
        Check.same("18: wholly dark", x.ticks(0, 0, 15, 2), 2);
        Check.same("18: lit", x.ticks(0, 0, 15, 0), 14);
        Check.same("18: partly dark", x.ticks(0, 0, 15, 1), 0);
        Check.same("18: both times count", x.ticks(0, 4, 12, 2), 2);
        Check.same("18: one tick, dark", x.ticks(0, 4, 4, 2), 1);
        Check.same("18: one tick, lit", x.ticks(0, 3, 3, 2), 0);
        Check.same("18: longest", x.ticks(0, 4, 5004, 2), 626);
        Check.same("18: to the end", x.ticks(0, 995000, 1000000, 0), 5001 - 625);
        WanderingMoons five = Skies.of(FIVE);
        Check.same("18: ticks(1, 10, 910, 1)", five.ticks(1, 10, 910, 1), 3);
        Check.same("18: ticks(2, 20, 920, 2)", five.ticks(2, 20, 920, 2), 23);
        Check.same("18: ticks(3, 30, 930, 0)", five.ticks(3, 30, 930, 0), 890);
    }

    private static void darkest() {
        WanderingMoons x = Skies.of(ONE);
        Check.same("19: first", x.darkest(0, 10), 4);
        Check.same("19: first of several", x.darkest(5, 30), 12);
        Check.same("19: both ends count", x.darkest(4, 4), 4);
        Check.same("19: the last tick counts", x.darkest(5, 12), 12);
        Check.same("19: none", x.darkest(0, 3), -1);
        Check.same("19: longest", x.darkest(0, 2000), 4);
        Check.same("19: at the end", x.darkest(998000, 1000000), 998004);
        Check.same("19: none at the end", x.darkest(999997, 1000000), -1);
        Check.same("19: no moons", new WanderingMoons().darkest(0, 2000), -1);
        // a is dark at 4, 12, 20, .. and b at 8, 20, 32, ..
        WanderingMoons y = Skies.of("planet 10;moon a 100 0 0 8 0;moon b 100 0 0 12 300;");
        Check.same("19: most moons, not the first dark one", y.darkest(0, 100), 20);
        Check.same("19: one is most", y.darkest(0, 19), 4);
        Check.same("19: the other one too", y.darkest(5, 11), 8);
        Check.same("19: both once more", y.darkest(21, 100), 44);
        Check.same("19: partly dark counts", Skies.of("planet 10;moon a 19 0 0 8 150;").darkest(0, 1), 0);
    }

    private static void refusals() {
        WanderingMoons x = Skies.of(TWO);
        Check.index("13: moon 2", () -> x.state(2, 0));
        Check.index("13: moon -1", () -> x.state(-1, 0));
        Check.argument("13: time -1", () -> x.state(0, -1));
        Check.argument("13: time 1000001", () -> x.state(0, 1000001));
        Check.index("13: the moon first", () -> x.state(2, -1));
        Check.index("14: moon 2", () -> x.casts(2, 0));
        Check.index("14: moon -1", () -> x.casts(-1, 0));
        Check.argument("14: time -1", () -> x.casts(0, -1));
        Check.argument("14: time 1000001", () -> x.casts(0, 1000001));
        Check.index("15: moon 2", () -> x.shadedBy(2, 0));
        Check.index("15: moon -1", () -> x.shadedBy(-1, 0));
        Check.argument("15: time -1", () -> x.shadedBy(0, -1));
        Check.argument("15: time 1000001", () -> x.shadedBy(0, 1000001));
        Check.index("16: moon 2", () -> x.whyLit(2, 0));
        Check.index("16: moon -1", () -> x.whyLit(-1, 0));
        Check.argument("16: time -1", () -> x.whyLit(0, -1));
        Check.argument("16: time 1000001", () -> x.whyLit(0, 1000001));
        Check.index("17: moon 2", () -> x.meeting(2, 0, 0));
        Check.index("17: other 2", () -> x.meeting(0, 2, 0));
        Check.index("17: moon -1", () -> x.meeting(-1, 0, 0));
        Check.index("17: other -1", () -> x.meeting(0, -1, 0));
        Check.argument("17: from -1", () -> x.meeting(0, 1, -1));
        Check.argument("17: from 1000001", () -> x.meeting(0, 1, 1000001));
        Check.argument("17: from before the same", () -> x.meeting(1, 1, 1000001));
        Check.index("17: the same that is none", () -> x.meeting(2, 2, 0));
        Check.index("17: the moons first", () -> x.meeting(0, 2, -1));
        Check.index("18: moon 2", () -> x.ticks(2, 0, 1, 0));
        Check.index("18: moon -1", () -> x.ticks(-1, 0, 1, 0));
        Check.argument("18: from -1", () -> x.ticks(0, -1, 1, 0));
        Check.argument("18: to less than from", () -> x.ticks(0, 5, 4, 0));
        Check.argument("18: 5001 later", () -> x.ticks(0, 5, 5006, 0));
        Check.argument("18: to 1000001", () -> x.ticks(0, 1000000, 1000001, 0));
        Check.argument("18: from 1000001", () -> x.ticks(0, 1000001, 1000001, 0));
        Check.argument("18: state -1", () -> x.ticks(0, 0, 1, -1));
        Check.argument("18: state 3", () -> x.ticks(0, 0, 1, 3));
        Check.index("18: the moon first", () -> x.ticks(2, 1, 0, 3));
        Check.argument("19: from -1", () -> x.darkest(-1, 0));
        Check.argument("19: to less than from", () -> x.darkest(5, 4));
        Check.argument("19: 2001 later", () -> x.darkest(5, 2006));
        Check.argument("19: to 1000001", () -> x.darkest(999999, 1000001));
        Check.argument("19: from 1000001", () -> x.darkest(1000001, 1000001));
    }
}

/** Sections 3 and 4 of the document: shadows, meetings, events and sights at their limits, to the last hundredth. */
public final class ShadowsAndEventsTest {
    private static final String INDEX = "throws.IndexOutOfBoundsException";
    private static final String[] KINDS = {"dark", "lit", "cast", "off"};

    public static void main(String[] args) {
        whollyDark();
        partlyDark();
        withoutRadius();
        wide();
        ahead();
        casting();
        shadedBeside();
        shadedAhead();
        shadedRadii();
        meetings();
        meetingEnds();
        partsOfAShadow();
        firstTime();
        beforeFirstTime();
        lastTime();
        behindLastTime();
        earlierOfTwo();
        between();
        burdens();
        thirtySights();
        Check.end();
    }

    /** A moon that is aside by half the sine of the time, wide by the number told. */
    private static WanderingMoons slow(int wide) {
        return Skies.of("planet 10;moon a 50 0 0 36000 0 wide " + wide + ";");
    }

    /** Time, how far it is aside then, and its state and why it is lit. */
    private static void behind(WanderingMoons x, int time, int aside, int state, int why) {
        Check.same("3: aside at " + time, x.place(0, time, 3), aside);
        Check.same("3: behind the planet at " + time, x.place(0, time, 2) < 0, true);
        Check.same("3: state of a moon aside by " + aside, x.state(0, time), state);
        Check.same("3: why it is lit, aside by " + aside, x.whyLit(0, time), why);
        Check.same("3: ticks of this state, aside by " + aside, x.ticks(0, time, time, state), 1);
        Check.same("3: dark or not, aside by " + aside, x.darkest(time, time), state == 0 ? -1 : time);
        Check.same("3: no shadow of a moon behind the planet", x.casts(0, time), false);
    }

    private static void whollyDark() {
        WanderingMoons x = slow(1);
        behind(x, 16973, 899, 2, 0);
        behind(x, 16972, 900, 2, 0);
        behind(x, 16971, 901, 1, 0);
        behind(x, 19027, -899, 2, 0);
        behind(x, 19028, -900, 2, 0);
        behind(x, 19029, -901, 1, 0);
        behind(x, 18000, 0, 2, 0);
    }

    private static void partlyDark() {
        WanderingMoons x = slow(1);
        behind(x, 16739, 1099, 1, 0);
        behind(x, 16738, 1100, 0, 2);
        behind(x, 16737, 1101, 0, 2);
        behind(x, 19261, -1099, 1, 0);
        behind(x, 19262, -1100, 0, 2);
        behind(x, 19263, -1101, 0, 2);
    }

    /** At most for wholly dark, less for partly dark: at 1000 the one holds and the other does not. */
    private static void withoutRadius() {
        WanderingMoons x = slow(0);
        behind(x, 16856, 999, 2, 0);
        behind(x, 16855, 1000, 2, 0);
        behind(x, 16854, 1001, 0, 2);
        behind(x, 19143, -999, 2, 0);
        behind(x, 19145, -1000, 2, 0);
        behind(x, 19146, -1001, 0, 2);
    }

    private static void wide() {
        behind(slow(10), 18000, 0, 2, 0);
        behind(slow(10), 17998, 1, 1, 0);
        behind(slow(11), 18000, 0, 1, 0);
    }

    private static void ahead() {
        // so far aside that it is lit, but because it is beside the shadow
        WanderingMoons x = Skies.of("planet 99;moon a 111 0 0 36000 0 wide 11;");
        Calls.due("3: ahead by less than 0", x, "place 0 9001 2", "-1", "state 0 9001", "0", "whyLit 0 9001", "2");
        // sines are a little small at 45 degrees: there a moon beside the planet is aside by less than both radii
        WanderingMoons y = Skies.of("planet 999;light 0 1;moon a 1099 0 30 36000 60 wide 99;");
        Calls.due("3: ahead by less than 0", y, "place 0 26 2", "-1", "state 0 26", "1", "whyLit 0 26", "0",
                "casts 0 26", "false");
        Calls.due("3: ahead by more than 0", y, "place 0 30 2", "1", "casts 0 30", "true", "state 0 30", "0", "whyLit 0 30", "1");
        WanderingMoons z = Skies.of("planet 999;moon a 1099 0 23 8 67 wide 99;");
        Calls.due("3: ahead by 0", z, "place 0 0 2", "0", "state 0 0", "0", "casts 0 0", "false", "whyLit 0 0", "1");
    }

    private static void castsAside(WanderingMoons x, int time, int aside, boolean due) {
        Check.same("3: aside at " + time, x.place(0, time, 3), aside);
        Check.same("3: ahead at " + time, x.place(0, time, 2) > 0, true);
        Check.same("3: casts its shadow, aside by " + aside, x.casts(0, time), due);
        Check.same("3: lit, aside by " + aside, x.state(0, time) + " " + x.whyLit(0, time), "0 1");
    }

    private static void casting() {
        WanderingMoons x = slow(1);
        castsAside(x, 1261, 1099, true);
        castsAside(x, 1262, 1100, false);
        castsAside(x, 1263, 1101, false);
        castsAside(x, 34739, -1099, true);
        castsAside(x, 34738, -1100, false);
        castsAside(x, 0, 0, true);
        WanderingMoons none = slow(0);
        castsAside(none, 1143, 999, true);
        castsAside(none, 1145, 1000, false);
        castsAside(none, 34856, -999, true);
        castsAside(none, 34855, -1000, false);
    }

    private static void shaded(WanderingMoons x, int time, int difference, String byWhich) {
        Check.same("3: difference at " + time, x.place(1, time, 3) - x.place(0, time, 3), difference);
        Check.same("3: who is shaded at " + time, x.shadedBy(0, time) + " " + x.shadedBy(1, time), byWhich);
    }

    private static void shadedBeside() {
        WanderingMoons x = Skies.of("planet 10;moon a 50 0 0 36000 0;moon b 100 0 0 36000 0;");
        shaded(x, 225, 199, "2 0");
        shaded(x, 226, 200, "0 0");
        shaded(x, 35775, -199, "2 0");
        shaded(x, 35774, -200, "0 0");
        // behind the planet the other one is ahead
        shaded(x, 17775, 199, "0 1");
        shaded(x, 17774, 200, "0 0");
        shaded(x, 18225, -199, "0 1");
        shaded(x, 18226, -200, "0 0");
        // aside to both sides
        WanderingMoons y = Skies.of("planet 10;moon a 60 0 0 36000 0;moon b 120 0 0 36000 359;");
        shaded(y, 12, -199, "2 0");
        shaded(y, 11, -200, "0 0");
        shaded(y, 18012, 199, "0 1");
        shaded(y, 18011, 200, "0 0");
    }

    private static void shadedAhead() {
        WanderingMoons x = Skies.of("planet 10;moon a 100 0 0 36000 0;moon b 101 0 0 36000 0;");
        Calls.due("3: ahead by 1 more", x, "place 0 8888 2", "198", "place 1 8888 2", "199", "shadedBy 0 8888", "2",
                "shadedBy 1 8888", "0");
        Calls.due("3: ahead as much", x, "place 0 8944 2", "99", "place 1 8944 2", "99", "shadedBy 0 8944", "0",
                "shadedBy 1 8944", "0");
        Calls.due("3: ahead by 1 less", x, "place 0 9057 2", "-101", "place 1 9057 2", "-102", "shadedBy 0 9057", "0",
                "shadedBy 1 9057", "1");
    }

    private static void shadedRadii() {
        for (String radii : new String[] {"2 0", "0 2"}) {
            String[] two = radii.split(" ");
            WanderingMoons x = Skies.of("planet 10;moon a 50 0 0 36000 0 wide " + two[0] + ";moon b 100 0 0 36000 0 wide "
                    + two[1] + ";");
            shaded(x, 225, 199, "2 0");
            shaded(x, 226, 200, "0 0");
        }
        WanderingMoons x = Skies.of("planet 10;moon a 50 0 0 36000 0 wide 0;moon b 100 0 0 36000 0 wide 0;");
        shaded(x, 0, 0, "0 0");
        x.setMoon(1, 5, 1);
        shaded(x, 0, 0, "2 0");
    }

    private static void pair(WanderingMoons x, int time, String places, boolean due) {
        Check.same("3: their places", x.place(0, time, 0) + " " + x.place(0, time, 1) + " " + x.place(1, time, 0) + " "
                + x.place(1, time, 1), places);
        Check.same("3: they meet", x.meeting(0, 1, time) == time, due);
        Check.same("3: the other one meets the first", x.meeting(1, 0, time) == time, due);
    }

    private static void meetings() {
        // 294 times 306 plus 63 times 72 is 94500; 294 times 72 less 63 times 306 is 1890
        pair(Skies.of("planet 1;moon a 3 1 214 100 172 wide 0;moon b 3 6 214 100 171 wide 0;"), 196, "294 63 306 72", true);
        // 39600 and -792
        pair(Skies.of("planet 1;moon a 2 0 82 170 187 wide 0;moon b 2 0 82 170 186 wide 0;"), 216, "198 22 198 18", true);
        // 56349 and 1127: one less than 50 times
        pair(Skies.of("planet 1;moon a 3 5 311 100 311 wide 0;moon b 2 0 311 100 310 wide 0;"), 107, "73 -274 55 -191", false);
        // on the other side: -20000 times 10000
        pair(Skies.of("planet 10;moon a 100 0 0 36000 0;moon b 200 0 0 36000 180;"), 0, "10000 0 -20000 0", false);
        pair(Skies.of("planet 10;moon a 100 0 0 36000 0;moon b 200 0 0 36000 90;"), 0, "10000 0 0 20000", false);
        // so far that the products are more than an int holds
        pair(Skies.of("planet 10;moon a 9999 60 0 36000 180;moon b 9999 60 0 36000 180;"), 0, "-1599840 0 -1599840 0", true);
    }

    /** At most 1000000, and at most 5000 later. */
    private static void meetingEnds() {
        WanderingMoons last = Skies.of("planet 10;moon a 100 0 0 36000 0;moon b 50 0 0 10341 26;");
        Calls.due("17: the last time", last, "meeting 0 1 1000000", "1000000", "meeting 0 1 999999", "1000000",
                "meeting 0 1 995000", "1000000", "meeting 0 1 994999", "-1");
        WanderingMoons behind = Skies.of("planet 10;moon a 100 0 0 36000 0;moon b 50 0 0 45982 12;");
        Calls.due("17: a tick behind the last time", behind, "meeting 0 1 1000000", "-1", "meeting 0 1 996001", "-1",
                "meeting 0 1 995001", "-1");
    }

    /** From lit over partly dark and wholly dark to lit there is one event of each kind. */
    private static void partsOfAShadow() {
        WanderingMoons x = Skies.of("planet 10;moon a 100 0 0 36000 0;");
        Calls.due("4: into the shadow and out of it", x, "state 0 17376", "0", "state 0 17377", "1", "state 0 18000", "2",
                "state 0 18623", "1", "state 0 18624", "0", "events 17377 17377", "1", "event 17377 17377 0 2", "0",
                "events 17378 18623", "0", "events 18624 18624", "1", "event 18624 18624 0 2", "1", "events 17000 19000", "2",
                "next 0 0 17377", "17377", "next 0 0 17378", "-1", "next 0 1 17378", "18624", "meanDark 0 17000 19000", "1247.0");
        Calls.due("4: on the planet and off it", x, "events 34400 36400", "1", "event 34400 36400 0 2", "2",
                "event 34400 36400 0 0", "35377", "events 36001 36700", "1", "event 36001 36700 0 0", "36624",
                "event 36001 36700 0 2", "3", "events 35378 36623", "0");
    }

    /** Skies whose only event of a kind is at one time; a round has 36000 ticks. */
    private static WanderingMoons only(int half, int place) {
        return Skies.of("planet 10;moon a " + half + " 0 0 36000 " + place + ";");
    }

    private static void firstTime() {
        int[] halves = {22, 27, 22, 27};
        int[] places = {150, 204, 330, 24};
        for (int kind = 0; kind < 4; kind++) {
            String what = "4: an event at time 1, " + KINDS[kind];
            WanderingMoons x = only(halves[kind], places[kind]);
            Calls.due(what, x, "next 0 " + kind + " 1", "1", "next 0 " + kind + " 2", "-1", "events 1 1", "1",
                    "event 1 1 0 0", "1", "event 1 1 0 1", "0", "event 1 1 0 2", "" + kind, "event 1 1 1 0", INDEX,
                    "see 0 " + kind + " 1", "0", "see 0 " + kind + " 401", "1", "see 0 " + kind + " 402", "2",
                    "sight 0 3", "0", "sight 1 3", "-400", "sight 2 3", "-1000000", "count 5", "1", "moon 0 7", "801",
                    "worst", "1");
            String due = "1 " + KINDS[kind] + " a";
            Check.same(what + ", written", Skies.written(x, x.writeTable(1, 1)), due);
        }
    }

    /** From -1 to 0 it would be an event, but there is no such time. */
    private static void beforeFirstTime() {
        int[] halves = {27, 22, 27, 22};
        int[] places = {156, 210, 336, 30};
        for (int kind = 0; kind < 4; kind++) {
            WanderingMoons x = only(halves[kind], places[kind]);
            Calls.due("4: no event at time 0, " + KINDS[kind], x, "next 0 " + kind + " 1", "-1", "events 1 400", "0",
                    "see 0 " + kind + " 1", "0", "see 0 " + kind + " 400", "1", "sight 0 3", "-1000000", "sight 1 3", "-1000000",
                    "count 5", "2", "moon 0 7", "802", "worst", "-1");
        }
    }

    private static void lastTime() {
        int[] halves = {27, 22, 27, 22};
        int[] places = {236, 290, 56, 110};
        for (int kind = 0; kind < 4; kind++) {
            WanderingMoons x = only(halves[kind], places[kind]);
            Calls.due("4: an event at time 1000000, " + KINDS[kind], x, "next 0 " + kind + " 1000000", "1000000",
                    "next 0 " + kind + " 995000", "1000000", "next 0 " + kind + " 994999", "-1", "events 1000000 1000000", "1",
                    "event 1000000 1000000 0 0", "1000000", "event 1000000 1000000 0 2", "" + kind, "events 999000 999999", "0",
                    "see 0 " + kind + " 1000000", "0", "see 0 " + kind + " 999600", "1", "see 0 " + kind + " 999599", "2",
                    "sight 0 3", "0", "sight 1 3", "400", "sight 2 3", "-1000000", "worst", "1");
            String due = "1000000 " + KINDS[kind] + " a";
            Check.same("4: at 1000000, written, " + kind, Skies.written(x, x.writeTable(1000000, 1000000)), due);
        }
    }

    private static void behindLastTime() {
        int[] halves = {22, 27, 22, 27};
        int[] places = {230, 284, 50, 104};
        for (int kind = 0; kind < 4; kind++) {
            WanderingMoons x = only(halves[kind], places[kind]);
            Calls.due("4: none at 1000001, " + KINDS[kind], x, "next 0 " + kind + " 1000000", "-1",
                    "next 0 " + kind + " 996000", "-1", "events 999600 1000000", "0", "see 0 " + kind + " 1000000", "0",
                    "see 0 " + kind + " 999601", "1", "sight 0 3", "-1000000", "sight 1 3", "-1000000", "count 5", "2",
                    "moon 0 7", "802");
        }
    }

    /** Dark at 4 and 12, lit at 5 and 13, cast at 8 and 16, off at 9 and 17. */
    private static void earlierOfTwo() {
        WanderingMoons x = Skies.of("planet 10;moon io 100 0 0 8 0;");
        int[] middle = {8, 9, 12, 13};
        for (int kind = 0; kind < 4; kind++) {
            x.see(0, kind, middle[kind]);
            x.see(0, kind, middle[kind] - 1);
            x.see(0, kind, middle[kind] + 1);
            int first = 3 * kind;
            Check.same("4: of two the earlier one, " + KINDS[kind], x.sight(first, 3), -4);
            Check.same("4: nearer to the earlier one, " + KINDS[kind], x.sight(first + 1, 3), -3);
            Check.same("4: nearer to the later one, " + KINDS[kind], x.sight(first + 2, 3), 3);
        }
    }

    /** Between two events 800, 801 and 802 ticks from one another. */
    private static void between() {
        WanderingMoons x = Skies.of("planet 10;moon a 100 0 0 800 0;");
        Calls.due("4: 400 to both sides", x, "next 0 0 1", "387", "next 0 0 388", "1187", "see 0 0 787", "0", "sight 0 3", "-400",
                "see 0 0 786", "1", "sight 1 3", "-399", "see 0 0 788", "2", "sight 2 3", "399");
        x.setMoon(0, 3, 801);
        Calls.due("4: 400 and 401", x, "next 0 0 1", "387", "next 0 0 388", "1188", "sight 0 3", "-400", "sight 2 3", "400");
        x.setMoon(0, 3, 802);
        Calls.due("4: 401 to both sides", x, "next 0 0 1", "388", "next 0 0 389", "1190", "see 0 0 789", "3",
                "sight 3 3", "-1000000", "sight 2 3", "-400", "see 0 0 790", "4", "sight 4 3", "400", "moon 0 7",
                "" + (399 + 398 + 400 + 401 + 400));
    }

    private static void burdens() {
        WanderingMoons x = Skies.of("planet 10;moon a 100 0 0 36000 0;moon b 100 0 0 36000 0;");
        Calls.due("4: the burden of a moon without sights", x, "moon 0 7", "0", "moon 0 6", "0", "burden 0 0", "0");
        Calls.due("4: 401 for each that is lost", x, "see 0 0 1", "0", "moon 0 7", "401", "see 0 0 2", "1", "moon 0 7", "802",
                "see 1 0 17377", "2", "moon 1 7", "0", "see 1 0 17777", "3", "moon 1 7", "400", "see 1 0 16977", "4",
                "moon 1 7", "800", "see 1 0 16976", "5", "moon 1 7", "1201", "moon 0 7", "802", "moon 1 6", "4", "moon 0 6", "2");
    }

    /** At most 30, in the order in which they came, no two alike: over all ways in which sights come. */
    private static void thirtySights() {
        StringBuilder text = new StringBuilder("planet 10;moon a 100 0 0 8 0;");
        for (int time = 10; time < 38; time++) {
            text.append("seen a off ").append(time).append(';');
        }
        WanderingMoons x = Skies.of(text.toString());
        Calls.due("4: at most 30", x, "count 4", "28", "see 0 0 10", "28", "see 0 3 10", "-12");
        Check.same("4: no two alike", Skies.read(x, "seen a dark 10;") + " " + x.errorPosition(), "-5 12");
        Check.same("4: the 30th", Skies.read(x, "seen a lit 10;"), 30);
        Check.same("4: the 31st", Skies.read(x, "seen a cast 10;") + " " + x.errorPosition(), "-7 0");
        Calls.due("4: full", x, "see 0 2 10", "-11", "see 0 3 10", "-11", "sight 29 1", "1", "sight 30 0", INDEX, "moon 0 6", "30",
                "forget 0", "29", "sight 29 0", INDEX, "sight 28 1", "1", "see 0 2 10", "29", "see 0 3 10", "-11",
                "forget 29", "29", "see 0 3 10", "29");
    }
}

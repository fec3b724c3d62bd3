/** Promises 24 to 26: worst, burden, bestShift. */
public final class SightsTest {
    private static final String ONE = "planet 10;moon io 100 0 0 8 0;";
    /** A round of 36000 ticks: each degree more makes each event earlier by 100 ticks. */
    private static final String SLOW = "planet 10;moon a 100 0 0 36000 100;moon b 100 0 0 36000 350;";

    public static void main(String[] args) {
        worst();
        burden();
        bestShift();
        bestOfSeveral();
        refusals();
        Check.end();
    }

    /** The sky SLOW with sights of its moon a, each so much behind its dark event. */
    private static WanderingMoons slow(int... behind) {
        WanderingMoons x = Skies.of(SLOW);
        int dark = Skies.darkTime(x, 0);
        for (int ticks : behind) {
            x.see(0, 0, dark + ticks);
        }
        return x;
    }

    private static void worst() {
        Check.same("24: none", new WanderingMoons().worst(), -1);
        Check.same("24: a moon without sights", Skies.of(ONE).worst(), -1);
        Check.same("24: one that is not off", Skies.of(ONE + "seen io dark 4;").worst(), 0);
        Check.same("24: several that are not off", Skies.of(ONE + "seen io dark 4;seen io lit 5;").worst(), 0);
        Check.same("24: by size, later", Skies.of(ONE + "seen io dark 4;seen io dark 9;seen io dark 14;").worst(), 1);
        Check.same("24: by size, earlier", Skies.of(ONE + "seen io dark 4;seen io dark 6;seen io dark 15;").worst(), 2);
        Check.same("24: of several the first one", Skies.of(ONE + "seen io dark 6;seen io dark 9;seen io dark 7;"
                + "seen io dark 17;").worst(), 1);
        Check.same("24: lost ones do not count", slow(500, 10, 401, -20, 5).worst(), 3);
        Check.same("24: 400 is not lost", slow(401, 10, 400).worst(), 2);
        Check.same("24: all lost", slow(401, 500, 600).worst(), -1);
    }

    private static void burden() {
        WanderingMoons x = slow(150, -30, 450);
        Check.same("25: as it is", x.burden(0, 0), 150 + 30 + 401);
        Check.same("25: as moon() tells", x.moon(0, 7), 581);
        Check.same("25: one degree less", x.burden(0, -1), 50 + 130 + 350);
        Check.same("25: one degree more", x.burden(0, 1), 250 + 70 + 401);
        Check.same("25: two degrees less", x.burden(0, -2), 50 + 230 + 250);
        Check.same("25: ten degrees less", x.burden(0, -10), 401 + 401 + 401);
        Check.same("25: ten degrees more", x.burden(0, 10), 401 + 401 + 401);
        Check.same("25: nothing changes", x.moon(0, 4), 100);
        Check.same("25: nor can anything more be undone", x.undo(), 3);
        Check.same("25: another moon", x.burden(1, 3), 0);
        WanderingMoons one = Skies.of(ONE + "seen io dark 6;seen io dark 8;seen io lit 1000000;");
        Check.same("25: three sights", one.burden(0, 0), 9);
        modulo();
    }

    /** From 359 degrees to 9, and from 0 to 350. */
    private static void modulo() {
        WanderingMoons x = Skies.of("planet 10;moon a 100 0 0 36000 359;moon b 100 0 0 36000 0;moon c 100 0 0 36000 9;"
                + "moon d 100 0 0 36000 350;");
        int later = Skies.darkTime(x, 2);
        int earlier = Skies.darkTime(x, 3);
        x.see(0, 0, later);
        x.see(1, 0, earlier);
        Check.same("25: beyond 359", x.burden(0, 10), 0);
        Check.same("25: beyond 359, by 9", x.burden(0, 9), 100);
        Check.same("25: below 0", x.burden(1, -10), 0);
        Check.same("25: below 0, by 9", x.burden(1, -9), 100);
    }

    private static void bestShift() {
        Check.same("26: no sights", Skies.of(ONE).bestShift(0), 0);
        Check.same("26: nothing is better", slow(0).bestShift(0), 0);
        Check.same("26: 1", slow(-100).bestShift(0), 1);
        Check.same("26: 2", slow(-190).bestShift(0), 2);
        Check.same("26: 3", slow(-400).bestShift(0), 3);
        Check.same("26: -1", slow(100).bestShift(0), -1);
        Check.same("26: -2", slow(210).bestShift(0), -2);
        Check.same("26: -3", slow(400).bestShift(0), -3);
        Check.same("26: lost, but found with 3", slow(-700).bestShift(0), 3);
        Check.same("26: lost in any case", slow(-701).bestShift(0), 0);
        WanderingMoons x = slow(100);
        x.bestShift(0);
        Check.same("26: nothing changes", x.moon(0, 4), 100);
        Check.same("26: nor can anything more be undone", x.undo(), 1);
        Check.same("26: another moon", slow(100).bestShift(1), 0);
    }

    private static void bestOfSeveral() {
        Check.same("26: 0 and -1", slow(50).bestShift(0), 0);
        Check.same("26: 0 and 1", slow(-50).bestShift(0), 0);
        Check.same("26: -1 and -2", slow(150).bestShift(0), -1);
        Check.same("26: 1 and 2", slow(-150).bestShift(0), 1);
        Check.same("26: -2 and -3", slow(250).bestShift(0), -2);
        Check.same("26: 2 and 3", slow(-250).bestShift(0), 2);
        Check.same("26: -3 and 3", slow(450, -450).bestShift(0), -3);
        Check.same("26: -3 and 3, the other way", slow(-450, 450).bestShift(0), -3);
        // each degree brings one of the two 100 ticks nearer and leaves the other one lost
        WanderingMoons x = slow(450, -450);
        int[] due = {551, 651, 751, 802, 751, 651, 551};
        for (int degrees = -3; degrees <= 3; degrees++) {
            Check.same("25: burden with " + degrees, x.burden(0, degrees), due[degrees + 3]);
        }
    }

    private static void refusals() {
        WanderingMoons x = Skies.of(ONE);
        Check.index("25: moon 1", () -> x.burden(1, 0));
        Check.index("25: moon -1", () -> x.burden(-1, 0));
        Check.argument("25: 11 degrees", () -> x.burden(0, 11));
        Check.argument("25: -11 degrees", () -> x.burden(0, -11));
        Check.index("25: the moon first", () -> x.burden(1, 11));
        Check.index("26: moon 1", () -> x.bestShift(1));
        Check.index("26: moon -1", () -> x.bestShift(-1));
    }
}

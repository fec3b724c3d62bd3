/** Promises 1 to 8: a new object, append, load, read, errorPosition, count, moon, sight. */
public final class SetupTest {
    private static final String ONE = "planet 10;moon io 100 0 0 8 0;";
    private static final String FULL = "planet 999;light 359 -999;moon abcdefgh 9999 60 359 99999 359 wide 99;"
            + "moon b 2001 0 1 8 2 wide 0;seen b off 1000000;seen abcdefgh cast 1;";

    public static void main(String[] args) {
        newObject();
        appending();
        loading();
        reading();
        positions();
        counts();
        moons();
        sights();
        Check.end();
    }

    private static void newObject() {
        WanderingMoons x = new WanderingMoons();
        Check.same("1: new", Skies.picture(x), "10 0 0 0 0 ");
        Check.same("1: new, lost sights", x.count(5), 0);
        Check.same("1: new, no error", x.errorPosition(), -1);
        Check.state("1: new, nothing to undo", x::undo);
        Check.state("1: new, nothing saved in 0", () -> x.restore(0));
        Check.state("1: new, nothing saved in 1", () -> x.restore(1));
        Check.index("1: new, nothing written", () -> x.writtenByte(0));
        Check.same("1: new, empty buffer", x.append(0, 0, 0, 0, 0), 0);
        Check.same("1: two objects share nothing", shares(), "10 0 0 0 0 ");
    }

    private static String shares() {
        WanderingMoons x = new WanderingMoons();
        Skies.of(FULL).save(0);
        return Skies.picture(x);
    }

    private static void appending() {
        WanderingMoons x = new WanderingMoons();
        Check.same("2: 20 bytes", x.append(0x706c616e, 0x65742031, 0x303b6d6f, 0x6f6e2061, 0x20313030), 20);
        Check.same("2: bytes that are 0 are left out", x.append(0x20003000, 0x20003000, 0x00200038, 0x00000020, 0x303b0000), 29);
        Check.same("2: order of the bytes", x.load(), 1);
        Check.same("2: its period", x.moon(0, 3), 8);
        Check.same("2: empty after load", x.append(0x20, 0, 0, 0, 0), 1);
        Check.same("2: high bytes", x.append(-1, 0x80000000, 0x00ff0000, 0, 0), 7);
        for (int k = 0; k < 29; k++) {
            x.append(-1, -1, -1, -1, -1);
        }
        Check.state("2: 587 and 14", () -> x.append(-1, -1, -1, 0x20200000, 0));
        Check.same("2: nothing of a refused call comes", x.append(0, 0, 0, 0, 0), 587);
        Check.same("2: 600 are not too many", x.append(-1, -1, 0x20, -1, 0), 600);
        Check.same("2: nothing more is not too much", x.append(0, 0, 0, 0, 0), 600);
        Check.state("2: 601", () -> x.append(0, 0, 0, 0, 1));
        Check.state("2: 601 by the first argument", () -> x.append(0x01000000, 0, 0, 0, 0));
        Check.same("2: still 600", x.append(0, 0, 0, 0, 0), 600);
        Check.same("2: the text is read up to its error", x.load(), -2);
        Check.same("2: the error is in the second byte", x.errorPosition(), 1);
        Check.same("2: empty again", x.append(0, 0, 0, 0, 0x20000000), 1);
        longest();
    }

    /** A text of 600 bytes that has no error, so that each of its bytes counts. */
    private static void longest() {
        WanderingMoons x = new WanderingMoons();
        String text = "planet 10;" + " ".repeat(560) + "moon a 12 0 0 8 0 wide 1;     ";
        Check.same("2: the test's text", text.length(), 600);
        Check.same("2: a text of 600 bytes", Skies.load(x, text), 1);
    }

    private static void loading() {
        WanderingMoons x = new WanderingMoons();
        Check.same("3: two moons", Skies.load(x, FULL), 2);
        Check.same("3: all numbers", Skies.picture(x),
                "999 359 -999 2 2 9999 60 359 99999 359 99;2001 0 1 8 2 0;1 3 1000000;0 2 1;");
        Check.same("3: an error", Skies.load(x, "planet 5;moon a"), -2);
        Check.same("3: the present one stays", x.count(0), 999);
        Check.same("3: its sights stay", x.count(4), 2);
        Check.same("3: the buffer is empty after an error", x.append(0, 0, 0, 0, 0), 0);
        Check.same("3: an empty text is an error", x.load(), -2);
        Check.same("3: no moons", Skies.load(x, "planet 7;"), 0);
        Check.same("3: all is replaced", Skies.picture(x), "7 0 0 0 0 ");
        Check.same("3: the buffer is empty", x.append(0, 0, 0, 0, 0), 0);
        Skies.load(x, "planet 8;moon a 900 0 0 8 0 wide 9;");
        Skies.load(x, ONE);
        Check.same("3: numbers that are not told", Skies.picture(x), "10 0 0 1 0 100 0 0 8 0 1;");
        Check.same("3: load is a change, its errors are not", x.undo(), 3);
    }

    private static void reading() {
        WanderingMoons x = Skies.of(ONE + "seen io dark 9;");
        Check.same("4: behind those that are there", Skies.read(x, "seen io lit 7;seen io off 3;"), 3);
        Check.same("4: in their order", Skies.picture(x), "10 0 0 1 3 100 0 0 8 0 1;0 0 9;0 1 7;0 3 3;");
        Check.same("4: an error in the last one", Skies.read(x, "seen io lit 70;seen io off 30"), -2);
        Check.same("4: none comes then", x.count(4), 3);
        Check.same("4: the buffer is empty after an error", x.append(0, 0, 0, 0, 0), 0);
        Check.same("4: an empty text is none", x.read(), 3);
        Check.same("4: nor are spaces one", Skies.read(x, "   "), 3);
        Check.same("4: the buffer is empty", x.append(0, 0, 0, 0, 0), 0);
        Check.same("4: each is a change", x.undo(), 3);
        x.undo();
        Check.same("4: undone", x.undo(), 1);
        Check.same("4: as before", x.count(4), 1);
        Check.same("4: a whole sky is not read", Skies.read(x, ONE), -2);
        Check.same("4: at its first word", x.errorPosition(), 0);
        WanderingMoons none = new WanderingMoons();
        Check.same("4: without moons", none.read(), 0);
        Check.same("4: no such moon", Skies.read(none, "seen io dark 9;"), -4);
    }

    private static void positions() {
        WanderingMoons x = new WanderingMoons();
        Skies.load(x, "planet 0;");
        Check.same("5: of load", x.errorPosition(), 7);
        Skies.load(x, ONE);
        Check.same("5: none after load", x.errorPosition(), -1);
        Skies.read(x, "seen a dark 9;");
        Check.same("5: of read", x.errorPosition(), 5);
        x.see(0, 0, 1);
        x.undo();
        Check.same("5: stays as it is with undo", x.errorPosition(), 5);
        x.save(0);
        x.restore(0);
        Check.same("5: and with restore", x.errorPosition(), 5);
        x.read();
        Check.same("5: none after read", x.errorPosition(), -1);
    }

    private static void counts() {
        WanderingMoons x = Skies.of("planet 44;light 21 -7;moon a 90 0 0 36000 0;moon b 95 0 0 9 0;seen a dark 3;"
                + "seen b dark 5;seen a off 9000;");
        Check.same("6: radius", x.count(0), 44);
        Check.same("6: direction", x.count(1), 21);
        Check.same("6: drift", x.count(2), -7);
        Check.same("6: moons", x.count(3), 2);
        Check.same("6: sights", x.count(4), 3);
        Check.same("6: lost ones", x.count(5), 2);
        Check.argument("6: -1", () -> x.count(-1));
        Check.argument("6: 6", () -> x.count(6));
        Check.argument("6: least", () -> x.count(Integer.MIN_VALUE));
    }

    private static void moons() {
        WanderingMoons x = Skies.of("planet 10;moon a 100 1 2 36000 4 wide 5;moon b 90 9 8 77 6;"
                + "seen b dark 5;seen a off 9000;seen b lit 9;seen b lit 1000000;");
        for (int what = 0; what < 6; what++) {
            Check.same("7: of a, " + what, x.moon(0, what), new int[] {100, 1, 2, 36000, 4, 5}[what]);
            Check.same("7: of b, " + what, x.moon(1, what), new int[] {90, 9, 8, 77, 6, 1}[what]);
        }
        Check.same("7: sights of a", x.moon(0, 6), 1);
        Check.same("7: sights of b", x.moon(1, 6), 3);
        Check.same("7: burden of a, lost", x.moon(0, 7), 401);
        int sum = Math.abs(x.sight(0, 3)) + Math.abs(x.sight(2, 3)) + Math.abs(x.sight(3, 3));
        Check.same("7: burden of b", x.moon(1, 7), sum);
        Check.index("7: moon 2", () -> x.moon(2, 0));
        Check.index("7: moon -1", () -> x.moon(-1, 0));
        Check.argument("7: what 8", () -> x.moon(1, 8));
        Check.argument("7: what -1", () -> x.moon(1, -1));
        Check.index("7: both, the moon first", () -> x.moon(2, 8));
        Check.index("7: no moons", () -> new WanderingMoons().moon(0, 0));
    }

    private static void sights() {
        WanderingMoons x = Skies.of(ONE + "seen io lit 9;seen io cast 12;seen io dark 1000000;");
        Check.same("8: moon", x.sight(1, 0), 0);
        Check.same("8: kind", x.sight(1, 1), 2);
        Check.same("8: time", x.sight(1, 2), 12);
        Check.same("8: the earlier one of two", x.sight(1, 3), -4);
        Check.same("8: off, the nearest one is later", x.sight(0, 3), -4);
        Check.same("8: at the last time", x.sight(2, 3), -4);
        Check.index("8: sight 3", () -> x.sight(3, 0));
        Check.index("8: sight -1", () -> x.sight(-1, 0));
        Check.argument("8: what 4", () -> x.sight(2, 4));
        Check.argument("8: what -1", () -> x.sight(2, -1));
        Check.index("8: both, the sight first", () -> x.sight(3, 4));
        offNear();
        offFar();
        offEnds();
    }

    private static void offNear() {
        // dark at 4, lit at 5, cast at 8, off at 9, and so on every 8 ticks
        WanderingMoons x = Skies.of(ONE + "seen io lit 5;seen io lit 6;seen io lit 12;seen io lit 9;seen io cast 8;"
                + "seen io off 4;seen io dark 7;seen io dark 9;");
        int[] due = {0, -1, 1, -4, 0, -3, -3, 3};
        for (int sight = 0; sight < due.length; sight++) {
            Check.same("8: how far sight " + sight + " is off", x.sight(sight, 3), due[sight]);
        }
    }

    private static void offFar() {
        // 36000 ticks a round: one dark event a round, far from all others
        WanderingMoons x = Skies.of("planet 10;moon a 100 0 0 36000 100;");
        int dark = Skies.darkTime(x, 0);
        x.see(0, 0, dark + 400);
        x.see(0, 0, dark + 401);
        x.see(0, 0, dark - 400);
        x.see(0, 0, dark - 401);
        x.see(0, 0, dark);
        x.see(0, 1, dark);
        int[] due = {-400, -1000000, 400, -1000000, 0, -1000000};
        for (int sight = 0; sight < due.length; sight++) {
            Check.same("8: how far is far, " + sight, x.sight(sight, 3), due[sight]);
        }
        Check.same("6: lost ones of these", x.count(5), 3);
        Check.same("7: their burden", x.moon(0, 7), 800 + 3 * 401);
    }

    private static void offEnds() {
        // at 0 there is no event; at 1000001, where io goes off, there is no time
        WanderingMoons x = Skies.of(ONE + "seen io cast 1;seen io cast 3;seen io off 1;seen io off 1000000;"
                + "seen io cast 1000000;seen io cast 999998;seen io dark 2;seen io dark 999999;");
        int[] due = {7, 5, 0, -7, 0, 2, 2, -3};
        for (int sight = 0; sight < due.length; sight++) {
            Check.same("8: at the ends of time, " + sight, x.sight(sight, 3), due[sight]);
        }
    }
}

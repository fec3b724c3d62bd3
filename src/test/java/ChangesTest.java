/** Promises 27 to 34: see, forget, setMoon, setLight, shift, undo, save, restore. */
public final class ChangesTest {
    private static final String ONE = "planet 10;moon io 100 0 0 8 0;";
    private static final String SLOW = "planet 10;moon a 100 0 0 36000 100;moon b 100 0 0 36000 2;";
    private static final String PICTURE = "10 0 0 1 0 100 0 0 8 0 1;";

    public static void main(String[] args) {
        see();
        seeRefused();
        forget();
        setMoon();
        setMoonRefused();
        setLight();
        shift();
        undo();
        undoEight();
        undoLeaves();
        fromPresent();
        save();
        restore();
        Check.end();
    }

    private static void see() {
        WanderingMoons x = Skies.of(ONE + "moon b 100 0 0 8 0;");
        Check.same("27: first", x.see(0, 0, 1), 0);
        Check.same("27: second", x.see(1, 3, 1000000), 1);
        Check.same("27: another moon", x.see(1, 0, 1), 2);
        Check.same("27: another kind", x.see(0, 1, 1), 3);
        Check.same("27: another time", x.see(0, 0, 2), 4);
        Check.same("27: behind all others", Skies.picture(x),
                "10 0 0 2 5 100 0 0 8 0 1;100 0 0 8 0 1;0 0 1;1 3 1000000;1 0 1;0 1 1;0 0 2;");
        Check.same("27: each is a change", x.undo(), 5);
        Check.same("27: undone", x.count(4), 4);
        Check.index("27: moon 2", () -> x.see(2, 0, 1));
        Check.index("27: moon -1", () -> x.see(-1, 0, 1));
        Check.argument("27: kind -1", () -> x.see(0, -1, 1));
        Check.argument("27: kind 4", () -> x.see(0, 4, 1));
        Check.argument("27: time 0", () -> x.see(0, 0, 0));
        Check.argument("27: time 1000001", () -> x.see(0, 0, 1000001));
        Check.index("27: the moon first", () -> x.see(2, 4, 0));
        Check.same("27: nothing comes of these", x.count(4), 4);
    }

    private static void seeRefused() {
        WanderingMoons x = Skies.of(ONE);
        x.see(0, 0, 1);
        Check.same("27: there is this sight", x.see(0, 0, 1), -12);
        Check.same("27: a refusal is no change", x.undo(), 1);
        for (int k = 0; k < 30; k++) {
            Check.same("27: sight " + k, x.see(0, 0, 1 + k), k);
        }
        Check.same("27: there are 30", x.see(0, 0, 31), -11);
        Check.same("27: the lowest reason", x.see(0, 0, 30), -11);
        Check.argument("27: exceptions come first", () -> x.see(0, 0, 0));
        Check.same("27: still 30", x.count(4), 30);
        Check.same("27: one undone", x.undo(), 7);
        Check.same("27: one less", x.see(0, 0, 29), -12);
        Check.same("27: again 30", x.see(0, 1, 30), 29);
    }

    private static void forget() {
        WanderingMoons x = Skies.of(ONE + "seen io dark 1;seen io lit 2;seen io cast 3;seen io off 4;");
        Check.same("28: in the middle", x.forget(1), 3);
        Check.same("28: those behind it", Skies.picture(x), "10 0 0 1 3 100 0 0 8 0 1;0 0 1;0 2 3;0 3 4;");
        Check.same("28: the last one", x.forget(2), 2);
        Check.same("28: the first one", x.forget(0), 1);
        Check.same("28: what is left", x.sight(0, 2), 3);
        Check.index("28: sight 1", () -> x.forget(1));
        Check.index("28: sight -1", () -> x.forget(-1));
        Check.same("28: all", x.forget(0), 0);
        Check.index("28: none", () -> x.forget(0));
        twoMoons();
        Check.same("28: each is a change", x.undo(), 4);
        Check.same("28: undone", x.sight(0, 2), 3);
        Check.same("28: it can be seen again", Skies.of(ONE + "seen io dark 1;").forget(0), 0);
        x.forget(0);
        Check.same("28: the same again", x.see(0, 2, 3), 0);
    }

    private static void twoMoons() {
        WanderingMoons x = Skies.of(ONE + "moon b 100 0 0 8 0;seen io dark 1;seen b lit 2;seen io cast 3;seen b off 4;");
        Check.same("28: of two moons", x.forget(0), 3);
        Check.same("28: each keeps its moon", Skies.picture(x),
                "10 0 0 2 3 100 0 0 8 0 1;100 0 0 8 0 1;1 1 2;0 2 3;1 3 4;");
    }

    /** Neither what was only tried nor what was refused or undone may come along with a later change. */
    private static void fromPresent() {
        Check.same("27: from what is there", after(x -> x.see(0, 1, 9)), "10 3 4 1 2 100 0 0 8 0 1;0 0 5;0 1 9;");
        Check.same("28: from what is there", after(x -> x.forget(0)), "10 3 4 1 0 100 0 0 8 0 1;");
        Check.same("29: from what is there", after(x -> x.setMoon(0, 1, 7)), "10 3 4 1 1 100 7 0 8 0 1;0 0 5;");
        Check.same("30: from what is there", after(x -> x.setLight(1, 2)), "10 1 2 1 1 100 0 0 8 0 1;0 0 5;");
        Check.same("31: from what is there", after(x -> x.shift(0)), "10 3 4 1 1 100 0 0 8 0 1;0 0 5;");
        Check.same("4: from what is there", after(x -> Skies.read(x, "seen io off 7;")),
                "10 3 4 1 2 100 0 0 8 0 1;0 0 5;0 3 7;");
        Check.same("34: from what is there", after(x -> x.restore(0)), "10 3 4 1 1 100 0 0 8 0 1;0 0 5;");
        Check.same("3: from what is there", after(x -> Skies.load(x, "planet 9;moon a 20 0 0 9 1;")),
                "9 0 0 1 0 20 0 0 9 1 1;");
    }

    private static String after(java.util.function.ToIntFunction<WanderingMoons> change) {
        WanderingMoons x = Skies.of("planet 10;light 3 4;moon io 100 0 0 8 0;seen io dark 5;");
        x.save(0);
        x.setMoon(0, 3, 100);
        x.see(0, 2, 8);
        x.setLight(9, 9);
        x.undo();
        x.undo();
        x.undo();
        x.setMoon(0, 0, 11);
        Skies.load(x, "planet 77;light 7 7;moon b 100 0 0 8 0;moon");
        Skies.read(x, "seen io lit 3;seen");
        x.burden(0, 10);
        change.applyAsInt(x);
        return Skies.picture(x);
    }

    private static void setMoon() {
        WanderingMoons x = Skies.of("planet 10;moon a 100 1 2 9 3 wide 4;moon b 100 0 0 8 0;");
        int[] before = {100, 1, 2, 9, 3, 4};
        int[] low = {15, 0, 0, 8, 0, 0};
        int[] high = {9999, 60, 359, 99999, 359, 99};
        for (int what = 0; what < 6; what++) {
            Check.same("29: to the highest, " + what, x.setMoon(0, what, high[what]), before[what]);
            Check.same("29: set, " + what, x.moon(0, what), high[what]);
        }
        Check.same("29: nothing else", Skies.picture(x), "10 0 0 2 0 9999 60 359 99999 359 99;100 0 0 8 0 1;");
        for (int what = 5; what >= 0; what--) {
            Check.same("29: to the lowest, " + what, x.setMoon(0, what, low[what]), high[what]);
        }
        Check.same("29: all of them", Skies.picture(x), "10 0 0 2 0 15 0 0 8 0 0;100 0 0 8 0 1;");
        for (int what = 0; what < 6; what++) {
            int number = what;
            int least = new int[] {2, 0, 0, 8, 0, 0}[what];
            Check.argument("29: too low, " + what, () -> x.setMoon(0, number, least - 1));
            Check.argument("29: too high, " + what, () -> x.setMoon(0, number, high[number] + 1));
        }
        Check.argument("29: what -1", () -> x.setMoon(0, -1, 1));
        Check.argument("29: what 6", () -> x.setMoon(0, 6, 1));
        Check.argument("29: what 7", () -> x.setMoon(0, 7, 1));
        Check.argument("29: what -1 to 0", () -> x.setMoon(0, -1, 0));
        Check.argument("29: what 6 to 0", () -> x.setMoon(0, 6, 0));
        Check.index("29: moon 2", () -> x.setMoon(2, 0, 100));
        Check.index("29: moon -1", () -> x.setMoon(-1, 0, 100));
        Check.index("29: the moon first", () -> x.setMoon(2, 6, -1));
        Check.same("29: the same again is a change too", x.setMoon(0, 0, 15), 15);
        Check.same("29: undone", x.undo(), 7);
        Check.same("29: as before", x.moon(0, 0), 15);
        x.undo();
        Check.same("29: as before that", x.moon(0, 0), 9999);
    }

    private static void setMoonRefused() {
        WanderingMoons x = Skies.of(ONE);
        Check.same("29: half axis 11", x.setMoon(0, 0, 11), -13);
        Check.same("29: half axis 2", x.setMoon(0, 0, 2), -13);
        Check.same("29: nothing changes", Skies.picture(x), PICTURE);
        Check.same("29: half axis 12", x.setMoon(0, 0, 12), 100);
        Check.same("29: radius 2", x.setMoon(0, 5, 2), -13);
        Check.same("29: radius 0", x.setMoon(0, 5, 0), 1);
        Check.same("29: flatness 9 leaves 10", x.setMoon(0, 1, 9), -13);
        Check.same("29: flatness 8 leaves 11", x.setMoon(0, 1, 8), 0);
        Check.same("29: flatness 60", x.setMoon(0, 1, 60), -13);
        Check.argument("29: out of range is no refusal", () -> x.setMoon(0, 0, 1));
        Check.same("29: a place is never refused", x.setMoon(0, 4, 180), 0);
        Check.same("29: only these were changes", x.undo(), 4);
    }

    private static void setLight() {
        WanderingMoons x = Skies.of("planet 10;light 45 6;moon io 100 0 0 8 0;");
        Check.same("30: the direction before", x.setLight(359, 999), 45);
        Check.same("30: direction", x.count(1), 359);
        Check.same("30: drift", x.count(2), 999);
        Check.same("30: light", x.light(1), 899);
        Check.same("30: the lowest", x.setLight(0, -999), 359);
        Check.same("30: nothing else", Skies.picture(x), "10 0 -999 1 0 100 0 0 8 0 1;");
        Check.argument("30: direction -1", () -> x.setLight(-1, 0));
        Check.argument("30: direction 360", () -> x.setLight(360, 0));
        Check.argument("30: drift -1000", () -> x.setLight(0, -1000));
        Check.argument("30: drift 1000", () -> x.setLight(0, 1000));
        Check.same("30: the same again is a change too", x.setLight(0, -999), 0);
        Check.same("30: three changes", x.undo(), 3);
        x.undo();
        x.undo();
        Check.same("30: undone", x.count(1) + " " + x.count(2), "45 6");
    }

    private static void shift() {
        WanderingMoons x = Skies.of(SLOW);
        x.see(0, 0, Skies.darkTime(x, 0) - 190);
        x.see(1, 0, Skies.darkTime(x, 1) + 400);
        x.see(1, 0, Skies.darkTime(x, 1) + 310);
        Check.same("31: its burden then", x.shift(0), 10);
        Check.same("31: its place", x.moon(0, 4), 102);
        Check.same("31: below 0", x.shift(1), 110);
        Check.same("31: modulo 360", x.moon(1, 4), 359);
        Check.same("31: once more", x.shift(1), 90);
        Check.same("31: on from there", x.moon(1, 4), 358);
        Check.same("31: nothing is better", x.shift(1), 90);
        Check.same("31: that is a change too, the eighth", x.undo(), 7);
        Check.same("31: as before", x.moon(1, 4), 358);
        x.undo();
        Check.same("31: undone", x.moon(1, 4), 359);
        Check.index("31: moon 2", () -> x.shift(2));
        Check.index("31: moon -1", () -> x.shift(-1));
        WanderingMoons y = Skies.of("planet 10;moon a 100 0 0 36000 358;");
        y.see(0, 0, Skies.darkTime(y, 0) - 300);
        Check.same("31: beyond 359", y.shift(0) + " " + y.moon(0, 4), "0 1");
    }

    private static void undo() {
        WanderingMoons x = new WanderingMoons();
        Check.state("32: nothing at first", x::undo);
        Skies.load(x, "planet 20;light 5 6;moon a 100 1 2 9 3 wide 4;seen a dark 5;");
        String loaded = Skies.picture(x);
        x.setLight(7, 8);
        x.setMoon(0, 3, 10);
        x.forget(0);
        Skies.load(x, ONE);
        Check.same("32: load", x.undo() + ": " + Skies.picture(x), "4: 20 7 8 1 0 100 1 2 10 3 4;");
        Check.same("32: forget", x.undo() + ": " + Skies.picture(x), "3: 20 7 8 1 1 100 1 2 10 3 4;0 0 5;");
        Check.same("32: setMoon", x.undo() + ": " + Skies.picture(x), "2: 20 7 8 1 1 100 1 2 9 3 4;0 0 5;");
        Check.same("32: setLight", x.undo() + ": " + Skies.picture(x), "1: " + loaded);
        Check.same("32: the first load", x.undo() + ": " + Skies.picture(x), "0: 10 0 0 0 0 ");
        Check.state("32: nothing more", x::undo);
        Check.state("32: still nothing", x::undo);
        Check.same("32: names too", names(), "4 dark a");
        Skies.load(x, ONE);
        x.undo();
        Skies.load(x, "planet 5;");
        Check.same("32: what was undone is gone", x.undo(), 0);
    }

    private static String names() {
        WanderingMoons x = Skies.of("planet 10;moon a 100 0 0 8 0;");
        Skies.load(x, "planet 10;moon b 100 0 0 8 0;");
        x.undo();
        return Skies.written(x, x.writeTable(4, 4));
    }

    private static void undoEight() {
        WanderingMoons x = Skies.of(ONE);
        for (int k = 1; k <= 11; k++) {
            x.setLight(k, 0);
        }
        for (int k = 1; k <= 8; k++) {
            Check.same("32: undo " + k, x.undo(), 8 - k);
            Check.same("32: direction after undo " + k, x.count(1), 11 - k);
        }
        Check.state("32: older ones cannot be undone", x::undo);
        Check.same("32: nothing changes then", x.count(1), 3);
        x.setLight(50, 0);
        x.setLight(60, 0);
        Check.same("32: again", x.undo() + " " + x.count(1), "1 50");
        x.setLight(70, 0);
        Check.same("32: and again", x.undo() + " " + x.count(1), "1 50");
        Check.same("32: to the end", x.undo() + " " + x.count(1), "0 3");
        for (int k = 0; k < 30; k++) {
            x.setLight(100 + k, 0);
            x.setLight(200 + k, 0);
            Check.same("32: many times, " + k, x.undo(), Math.min(k + 1, 7));
        }
        Check.same("32: the latest", x.count(1), 129);
    }

    private static void undoLeaves() {
        WanderingMoons x = Skies.of(ONE);
        x.writeTable(4, 4);
        x.save(0);
        x.setLight(5, 5);
        Skies.read(x, "seen b dark 5;");
        Skies.fill(x, "seen io dark 5;");
        x.undo();
        Check.same("32: not the written text", Skies.written(x, 9), "4 dark io");
        Check.same("32: not the error", x.errorPosition(), 5);
        Check.same("32: not the text buffer", x.append(0, 0, 0, 0, 0), 15);
        x.save(1);
        x.undo();
        Check.same("32: no sky", x.count(3), 0);
        Check.same("32: not what was saved", x.restore(0), 1);
        Check.same("32: as it was", Skies.picture(x), PICTURE);
        Check.same("32: nor the other one", x.restore(1), 1);
        Check.same("32: the buffer is still there", x.read(), 1);
    }

    private static void save() {
        WanderingMoons x = Skies.of(ONE);
        x.save(0);
        Check.state("33: slot 1 is empty", () -> x.restore(1));
        Check.index("33: slot 2", () -> saveIn(x, 2));
        Check.index("33: slot -1", () -> saveIn(x, -1));
        x.see(0, 0, 5);
        x.setLight(9, 9);
        x.save(1);
        Skies.load(x, "planet 5;");
        Check.same("33: save is no change", x.undo(), 3);
        Check.same("33: of 0", x.restore(0) + ": " + Skies.picture(x), "1: " + PICTURE);
        Check.same("33: of 1", x.restore(1) + ": " + Skies.picture(x), "1: 10 9 9 1 1 100 0 0 8 0 1;0 0 5;");
        Skies.load(x, "planet 5;");
        x.save(1);
        x.restore(0);
        Check.same("33: in place of what was there", x.restore(1) + ": " + Skies.picture(x), "0: 5 0 0 0 0 ");
        Check.same("33: the other one stays", x.restore(0) + ": " + Skies.picture(x), "1: " + PICTURE);
        x.setMoon(0, 0, 50);
        x.restore(0);
        Check.same("33: later changes do not touch it", x.moon(0, 0), 100);
        Check.same("33: names too", Skies.written(x, x.writeTable(4, 4)), "4 dark io");
    }

    private static Object saveIn(WanderingMoons x, int slot) {
        x.save(slot);
        return "nothing";
    }

    private static void restore() {
        WanderingMoons x = Skies.of(ONE);
        Check.index("34: slot 2", () -> x.restore(2));
        Check.index("34: slot -1", () -> x.restore(-1));
        Check.state("34: nothing saved in 0", () -> x.restore(0));
        Check.state("34: nothing saved in 1", () -> x.restore(1));
        x.save(0);
        Check.same("34: moons", x.restore(0), 1);
        Check.same("34: it is a change, though nothing is another one", x.undo(), 1);
        x.setLight(5, 6);
        x.restore(0);
        Check.same("34: brought back", Skies.picture(x), PICTURE);
        Check.same("34: undone", x.undo(), 2);
        Check.same("34: as before", x.count(1), 5);
        Check.same("34: what can be undone is not saved", x.undo(), 1);
        Check.same("34: it stays saved", x.restore(0) + x.restore(0) + x.restore(0), 3);
        Check.same("34: three changes more", x.undo(), 3);
        WanderingMoons none = new WanderingMoons();
        none.save(1);
        Skies.load(none, ONE);
        Check.same("34: no moons", none.restore(1), 0);
        Check.index("34: slot first", () -> none.restore(3));
    }
}

/** Section 6 with promises 27 to 34: what is a change, what undo and restore bring back, and what they leave. */
public final class UndoTest {
    private static final String STATE = "throws.IllegalStateException";
    private static final String TWO = "planet 10;light 5 -3;moon io 100 0 0 8 0;moon eu 200 0 0 16 180 wide 2;"
            + "seen io dark 6;seen eu off 10;seen io dark 5;";

    /** Each kind of change; those of SAME change nothing, and are changes all the same. */
    private static final String[] OTHER = {"load planet 9;light 1 2;moon z 50 3 4 9 5 wide 6;seen z off 7;", "load planet 1;",
        "read seen io lit 9;", "see 1 3 1000000", "forget 0", "forget 1", "forget 2", "setMoon 0 0 12", "setMoon 0 1 60",
        "setMoon 1 2 359", "setMoon 1 3 99999", "setMoon 0 4 359", "setMoon 1 5 99", "setLight 359 999", "setLight 0 -999",
        "shift 1", "restore 0", "restore 1"};
    private static final String[] SAME = {"load " + TWO, "read ", "read   ", "setMoon 0 0 100", "setMoon 0 1 0", "setMoon 1 2 0",
        "setMoon 1 3 16", "setMoon 0 4 0", "setMoon 1 5 2", "setLight 5 -3", "shift 0"};

    public static void main(String[] args) {
        eachChange();
        ninth();
        noChange();
        order();
        undoneIsGone();
        leavesTexts();
        leavesSaved();
        everythingFull();
        savedIsKept();
        restoredAgain();
        lowestReason();
        forgetting();
        settingLimits();
        shifting();
        Check.end();
    }

    /** Three changes: the sky itself, two that change a number and go back. */
    private static WanderingMoons two() {
        WanderingMoons x = new WanderingMoons();
        x.save(1);
        Skies.load(x, "planet 77;moon q 999 0 0 8 0;seen q lit 8;");
        x.save(0);
        x.undo();
        Skies.load(x, TWO);
        x.setMoon(1, 4, 181);
        x.setMoon(1, 4, 180);
        x.writeTable(1, 5);
        return x;
    }

    private static int change(WanderingMoons x, String call) {
        if (call.startsWith("load ")) {
            return Skies.load(x, call.substring(5));
        }
        return call.startsWith("read ") ? Skies.read(x, call.substring(5)) : Integer.parseInt(Calls.answer(x, call));
    }

    private static void eachChange() {
        String before = Stand.ofSky(two());
        String present = Skies.picture(two());
        for (String call : OTHER) {
            WanderingMoons x = two();
            Check.same("6: " + call + " succeeds", change(x, call) >= 0, true);
            Check.same("6: " + call + " changes something", Skies.picture(x).equals(present), false);
            Check.same("6: " + call + " can be undone", x.undo(), 3);
            Check.same("6: as it was before " + call, Stand.ofSky(x), before);
        }
        for (String call : SAME) {
            WanderingMoons x = two();
            Check.same("6: " + call + " succeeds", change(x, call) >= 0, true);
            Check.same("6: " + call + " changes nothing", Skies.picture(x), present);
            Check.same("6: " + call + " is a change though nothing is another one", x.undo(), 3);
            Check.same("6: as it was before " + call, Stand.ofSky(x), before);
        }
    }

    /** The oldest of 8 changes goes when the ninth comes, of whatever kind. */
    private static void ninth() {
        for (String[] calls : new String[][] {OTHER, SAME}) {
            for (String call : calls) {
                WanderingMoons x = two();
                for (int k = 0; k < 5; k++) {
                    x.setLight(5, -3);
                }
                change(x, call);
                for (int left = 7; left >= 1; left--) {
                    Check.same("6: undo with " + left + " left, after " + call, x.undo(), left);
                    Check.same("6: the sky with " + left + " left", x.count(3), 2);
                }
                // the load of the sky, the first of nine, can't be undone any more
                Check.same("6: the last undo after " + call, x.undo(), 0);
                Calls.due("6: 8 after " + call, x, "count 3", "2", "undo", STATE, "count 3", "2");
            }
        }
    }

    private static void noChange() {
        String[] calls = {"see 0 0 6", "-12", "setMoon 0 0 11", "-13", "load planet 10;moon", "-2", "read seen io dark 6;", "-5",
            "read seen", "-2", "load planet 0;", "-3"};
        for (int k = 0; k < calls.length; k += 2) {
            WanderingMoons x = two();
            Check.same("6: " + calls[k], change(x, calls[k]), Integer.parseInt(calls[k + 1]));
            Calls.due("6: no change, " + calls[k], x, "undo", "2", "moon 1 4", "181", "undo", "1", "undo", "0", "count 3", "0",
                    "undo", STATE);
        }
    }

    private static void order() {
        WanderingMoons x = two();
        String[] pictures = new String[9];
        String[] calls = {"setLight 1 1", "see 0 2 77", "forget 0", "setMoon 0 3 9", "shift 0", "read seen eu cast 5;",
            "load planet 3;moon k 90 0 0 8 0;", "restore 0"};
        for (int k = 0; k < calls.length; k++) {
            pictures[k] = Stand.shortly(x);
            change(x, calls[k]);
        }
        for (int k = calls.length - 1; k >= 0; k--) {
            Check.same("32: how many are left before " + calls[k], x.undo(), k);
            Check.same("32: the latest first, before " + calls[k], Stand.shortly(x), pictures[k]);
        }
        Calls.due("32: older ones cannot be undone", x, "undo", STATE, "count 3", "2");
    }

    private static void undoneIsGone() {
        WanderingMoons x = new WanderingMoons();
        Calls.due("32: what has not been undone", x, "setLight 1 0", "0", "setLight 2 0", "1", "undo", "1", "count 1", "1",
                "setLight 3 0", "1", "undo", "1", "count 1", "1", "undo", "0", "count 1", "0", "undo", STATE,
                "setLight 4 0", "0", "undo", "0", "count 1", "0", "undo", STATE);
    }

    private static void leavesTexts() {
        WanderingMoons x = Skies.of(TWO);
        x.setLight(1, 1);
        Skies.fill(x, "seen io off 7;");
        Calls.due("6: undo leaves the text buffer", x, "undo", "1", "append 0 0 0 0 0", "14", "read", "4", "sight 3 2", "7");
        Skies.read(x, "seen io off ;");
        Calls.due("6: undo leaves the position of an error", x, "undo", "1", "errorPosition", "12");
        Skies.load(x, "planet 5;");
        Calls.due("6: undo leaves the position of none", x, "errorPosition", "-1", "undo", "1", "errorPosition", "-1");
        int length = x.writeTable(1, 8);
        String text = Skies.written(x, length);
        x.setMoon(0, 3, 9);
        Skies.load(x, "planet 5;");
        Calls.due("6: undo leaves the written text", x, "undo", "2", "undo", "1", "undo", "0");
        Check.same("6: undo leaves the written text", Skies.written(x, length), text);
        Calls.due("6: and no more of it", x, "writtenByte " + length, "throws.IndexOutOfBoundsException");
        x.save(0);
        Skies.fill(x, "seen");
        Calls.due("34: restore leaves the buffer and the position", x, "errorPosition", "-1", "restore 0", "0",
                "append 0 0 0 0 0", "4", "errorPosition", "-1", "read", "-2", "restore 0", "0", "errorPosition", "4");
        Check.same("34: restore leaves the written text", Skies.written(x, length), text);
    }

    private static void leavesSaved() {
        WanderingMoons x = Skies.of(TWO);
        x.setLight(7, 7);
        x.save(0);
        Calls.due("6: undo leaves what was saved", x, "undo", "1", "count 1", "5", "undo", "0", "count 3", "0", "restore 0", "2",
                "count 1", "7", "undo", "0", "count 3", "0", "restore 0", "2", "count 1", "7");
        Calls.due("33: save is no change", x, "undo", "0", "save 1", "nothing", "undo", STATE, "restore 1", "0");
    }

    private static String fullText() {
        StringBuilder text = new StringBuilder("planet 99;light 1 2;");
        for (int k = 0; k < 6; k++) {
            text.append("moon ").append((char) ('f' - k)).append(' ').append(200 + k).append(' ').append(k).append(" 0 8 ")
                    .append(k).append(';');
        }
        for (int time = 1; time <= 28; time++) {
            text.append("seen ").append((char) ('a' + time % 6)).append(" lit ").append(time).append(';');
        }
        return text.toString();
    }

    /** 6 moons and 30 sights, saved and brought back, replaced and undone. */
    private static void everythingFull() {
        WanderingMoons x = Skies.of(fullText());
        Calls.due("33: full", x, "see 0 2 29", "28", "see 5 3 30", "29");
        String picture = Skies.picture(x);
        x.save(1);
        Skies.load(x, "planet 1;moon zz 2 0 0 8 0 wide 0;");
        Calls.due("34: full", x, "restore 1", "6", "see 0 0 1", "-11");
        Check.same("34: full", Skies.picture(x), picture);
        x.undo();
        Check.same("32: one moon", Skies.picture(x), "1 0 0 1 0 2 0 0 8 0 0;");
        Check.same("32: its name", Skies.written(x, x.writeTable(4, 4)), "4 dark zz");
        fullNames(x);
    }

    private static void fullNames(WanderingMoons x) {
        x.undo();
        Calls.due("32: full", x, "count 3", "6", "count 4", "30", "see 0 0 1", "-11", "sight 29 2", "30", "moon 5 0", "205");
        Check.same("32: the names of all", Skies.read(x, "seen a"), -7);
        for (char name = 'a'; name <= 'f'; name++) {
            x.forget(x.count(4) - 1);
            Check.same("32: the name " + name, Skies.read(x, "seen " + name + " cast 0;"), -3);
        }
        Check.same("32: no other name", Skies.read(x, "seen zz cast 0;"), -4);
    }

    private static void savedIsKept() {
        WanderingMoons x = Skies.of(TWO);
        String picture = Skies.picture(x);
        x.save(0);
        for (String call : new String[] {"setMoon 0 0 99", "forget 0", "see 0 3 8", "setLight 0 0", "shift 0", "load planet 3;"}) {
            change(x, call);
            x.restore(0);
            Check.same("33: what was saved stays as it was after " + call, Skies.picture(x), picture);
        }
        x.save(1);
        x.setLight(9, 9);
        x.save(0);
        Calls.due("33: in place of what was saved there", x, "restore 1", "2", "count 1", "5", "restore 0", "2", "count 1", "9");
        Calls.due("33: there are two slots", x, "save 2", "throws.IndexOutOfBoundsException", "save -1",
                "throws.IndexOutOfBoundsException", "restore 2", "throws.IndexOutOfBoundsException", "restore -1",
                "throws.IndexOutOfBoundsException", "count 1", "9", "restore 1", "2", "count 1", "5");
    }

    /** It stays saved, and what could be undone when it was saved is not brought back. */
    private static void restoredAgain() {
        WanderingMoons x = new WanderingMoons();
        x.setLight(1, 0);
        x.setLight(2, 0);
        x.save(0);
        x.undo();
        x.undo();
        Calls.due("34: what was saved stays saved", x, "undo", STATE, "restore 0", "0", "count 1", "2", "restore 0", "0",
                "count 1", "2", "undo", "1", "count 1", "2", "undo", "0", "count 1", "0", "undo", STATE);
        for (int k = 0; k < 12; k++) {
            x.restore(0);
        }
        Calls.due("34: each is a change, 8 of them can be undone", x, "undo", "7", "undo", "6", "undo", "5", "undo", "4",
                "undo", "3", "undo", "2", "undo", "1", "undo", "0", "undo", STATE, "count 1", "2");
    }

    private static void lowestReason() {
        WanderingMoons x = Skies.of("planet 10;moon a 100 0 0 8 0;");
        for (int k = 1; k <= 29; k++) {
            x.see(0, 0, k);
        }
        Calls.due("6: refused, the lowest reason is told", x, "see 0 0 29", "-12", "see 0 0 30", "29", "see 0 0 30", "-11",
                "see 0 0 1", "-11", "see 0 1 1", "-11", "undo", "7", "see 0 0 29", "-12", "see 0 1 29", "29", "count 4", "30");
        Calls.due("7: exceptions are ahead of refusals", x, "see 0 0 0", "throws.IllegalArgumentException", "see 0 4 1",
                "throws.IllegalArgumentException", "see 1 0 1", "throws.IndexOutOfBoundsException", "setMoon 0 0 1",
                "throws.IllegalArgumentException", "setMoon 1 0 11", "throws.IndexOutOfBoundsException", "setMoon 0 0 11", "-13");
    }

    private static String times(WanderingMoons x) {
        StringBuilder all = new StringBuilder();
        for (int k = 0; k < x.count(4); k++) {
            all.append(x.sight(k, 2)).append(' ');
        }
        return all.toString();
    }

    private static void forgetting() {
        StringBuilder text = new StringBuilder("planet 10;moon a 100 0 0 8 0;");
        StringBuilder due = new StringBuilder();
        for (int time = 1; time <= 30; time++) {
            text.append("seen a lit ").append(time).append(';');
            due.append(time).append(' ');
        }
        WanderingMoons x = Skies.of(text.toString());
        Calls.due("28: the last of 30", x, "forget 30", "throws.IndexOutOfBoundsException", "forget 29", "29",
                "forget 29", "throws.IndexOutOfBoundsException");
        Check.same("28: without the last one", times(x), due.substring(0, due.length() - 3));
        Check.same("28: the first one", x.forget(0), 28);
        Check.same("28: without the first one", times(x), due.substring(2, due.length() - 3));
        Calls.due("28: one in the middle", x, "sight 13 2", "15", "forget 13", "27", "sight 12 2", "14", "sight 13 2", "16",
                "sight 26 2", "29", "see 0 1 15", "27", "sight 27 2", "15", "forget -1", "throws.IndexOutOfBoundsException");
        for (int left = 27; left >= 0; left--) {
            Check.same("28: down to none", x.forget(0), left);
        }
        Calls.due("28: none is left", x, "forget 0", "throws.IndexOutOfBoundsException", "count 4", "0", "moon 0 7", "0",
                "worst", "-1", "see 0 1 15", "0");
    }

    /** The least and the greatest value of each number, and the first that are not allowed. */
    private static void settingLimits() {
        int[] least = {2, 0, 0, 8, 0, 0};
        int[] greatest = {9999, 60, 359, 99999, 359, 99};
        for (int what = 0; what < 6; what++) {
            WanderingMoons x = Skies.of("planet 1;moon a 500 0 0 9 0 wide " + (what == 0 ? 0 : 1) + ";");
            int before = x.moon(0, what);
            Calls.due("29: both ends", x, "setMoon 0 " + what + " " + greatest[what], "" + before, "moon 0 " + what,
                    "" + greatest[what], "setMoon 0 " + what + " " + least[what], "" + greatest[what], "moon 0 " + what,
                    "" + least[what], "setMoon 0 " + what + " " + (greatest[what] + 1), "throws.IllegalArgumentException",
                    "setMoon 0 " + what + " " + (least[what] - 1), "throws.IllegalArgumentException", "moon 0 " + what,
                    "" + least[what], "undo", "2", "undo", "1", "moon 0 " + what, "" + before);
        }
        WanderingMoons x = new WanderingMoons();
        Calls.due("30: both ends", x, "setLight 0 -999", "0", "setLight 359 999", "0", "setLight 0 999", "359",
                "setLight 359 -999", "0", "setLight 360 0", "throws.IllegalArgumentException", "setLight -1 0",
                "throws.IllegalArgumentException", "setLight 0 1000", "throws.IllegalArgumentException", "setLight 0 -1000",
                "throws.IllegalArgumentException", "count 1", "359", "count 2", "-999", "undo", "3");
    }

    /** Modulo 360 on both sides; a degree more is 100 ticks earlier. */
    private static void shifting() {
        int[] places = {359, 358, 357, 0, 1, 2, 356, 3};
        int[] behind = {-100, -200, -300, 100, 200, 300, -300, 300};
        int[] due = {0, 0, 0, 359, 359, 359, 359, 0};
        for (int k = 0; k < places.length; k++) {
            WanderingMoons x = Skies.of("planet 10;moon a 100 0 0 36000 " + places[k] + ";");
            x.see(0, 0, Skies.darkTime(x, 0) + behind[k]);
            Calls.due("31: modulo 360, from " + places[k], x, "bestShift 0", "" + (behind[k] / -100), "shift 0", "0",
                    "moon 0 4", "" + due[k], "moon 0 7", "0", "undo", "2", "moon 0 4", "" + places[k]);
        }
    }
}

/** An object is used for 512 calls: the last one of them is answered as if there had been few. */
public final class LastCallTest {
    private static final int CALLS = 512;
    /** "seen a cast 11;" */
    private static final String SIGHT = "append 1936024942 543236195 1634956320 825309952 0";
    private static final String[] CHURN = {SIGHT, "read", "setLight 77 -5",
        "see 0 1 9", "save 0", "setMoon 0 3 33", "undo", "load", "shift 0", "append -1 -1 -1 -1 -1", "load", "restore 0",
        "writeTable 3 900", "events 1 2001", "save 1", "forget 0", "bestShift 0", "undo", "see 9 9 9", "undo", "restore 1",
        "writtenByte 7", "append 8224 0 0 0 0", "see 0 0 0", "setMoon 1 0 2"};
    /** 9 changes, both slots, a written text, an error and what is left in the buffer. */
    private static final String[] TAIL = {"setLight 3 4", "setMoon 1 4 7", "see 0 2 15", "see 1 1 40", "save 0", "shift 1",
        "setMoon 0 5 2", "forget 0", "setLight 9 0", "save 1", "restore 0", "see 0 3 21", "append 8224 0 0 0 0", "read",
        "append 8257 0 0 0 0", "load", "writeTable 2 9", SIGHT};
    private static final String[] LAST = {"append 0 0 0 0 1", "load", "read", "errorPosition", "count 5", "count 4", "moon 1 4",
        "moon 0 7", "sight 3 3", "sine -7", "light 1000000", "place 1 1000000 3", "far 1 7", "state 0 12", "casts 1 8",
        "shadedBy 0 8", "whyLit 0 3", "meeting 0 1 3", "ticks 1 0 5000 0", "darkest 0 2000", "next 1 0 5", "events 1 2001",
        "event 1 2001 99 0", "meanDark 1 1 2001", "worst", "burden 0 10", "bestShift 1", "see 1 1 41", "see 1 1 40", "forget 2",
        "setMoon 0 0 99", "setMoon 0 0 11", "setLight 1 1", "shift 1", "undo", "save 1", "save 2", "restore 0", "restore 1",
        "writeTable 1 2001", "writtenByte 9", "writtenByte 400", "light -1"};

    public static void main(String[] args) {
        for (String last : LAST) {
            WanderingMoons young = loaded();
            tail(young);
            WanderingMoons old = old();
            Check.same("call " + CALLS + ": " + last, Calls.answer(old, last), Calls.answer(young, last));
        }
        undone();
        Check.end();
    }

    private static final String TEXT = "planet 10;moon a 100 0 0 8 0;moon eu 200 10 45 23 180 wide 2;seen a dark 6;";

    private static WanderingMoons loaded() {
        return Skies.of(TEXT);
    }

    private static void tail(WanderingMoons sky) {
        for (String call : TAIL) {
            Calls.answer(sky, call);
        }
    }

    /** 511 calls: what is asked and changed again and again, then the text, then the tail. */
    private static WanderingMoons old() {
        WanderingMoons sky = loaded();
        int loading = (TEXT.length() + 19) / 20 + 1;
        int left = CALLS - 1 - TAIL.length - 1 - 2 * loading;
        for (int k = 0; k < left; k++) {
            Calls.answer(sky, CHURN[k % CHURN.length]);
        }
        // whatever the churn has left in the buffer goes
        sky.load();
        Skies.load(sky, TEXT);
        tail(sky);
        return sky;
    }

    /** The last 8 of 512 calls undo the latest 8 changes. */
    private static void undone() {
        WanderingMoons sky = new WanderingMoons();
        for (int k = 1; k <= CALLS - 9; k++) {
            sky.setLight(k % 360, k);
        }
        for (int left = 7; left >= 0; left--) {
            Check.same("call " + (CALLS - left - 1) + ": undo", sky.undo(), left);
        }
        Check.same("call " + CALLS + ": the drift", sky.count(2), CALLS - 9 - 8);
    }
}

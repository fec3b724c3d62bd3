/** Sections 6 and 7: each exception, each refusal and each text with an error, with what stands afterwards as before. */
public final class ExceptionsTest {
    private static final String INDEX = "throws.IndexOutOfBoundsException";
    private static final String ARGUMENT = "throws.IllegalArgumentException";
    private static final String STATE = "throws.IllegalStateException";

    /** Of two moons, two sights and one saved sky: a moon, sight, slot or byte that does not exist. */
    private static final String[] NONE_SUCH = {
        "moon 2 0", "moon -1 0", "moon min 0", "moon max 7", "sight 2 0", "sight -1 0", "sight min 3", "sight max 3",
        "place 2 0 0", "place -1 0 0", "place max 1000000 3", "place min 0 0", "far 2 0", "far -1 0", "far min 0", "far max 0",
        "state 2 0", "state -1 0", "state min 0", "state max 0", "casts 2 0", "casts -1 0", "casts min 0", "casts max 0",
        "shadedBy 2 0", "shadedBy -1 0", "shadedBy min 0", "shadedBy max 0", "whyLit 2 0", "whyLit -1 0", "whyLit min 0",
        "whyLit max 0", "meeting 2 0 0", "meeting 0 2 0", "meeting -1 0 0", "meeting 0 -1 0", "meeting 2 2 0", "meeting min min 0",
        "meeting max max 0", "ticks 2 0 0 0", "ticks -1 0 0 0", "ticks min 0 0 0", "ticks max 0 0 0", "next 2 0 1",
        "next -1 0 1", "next min 0 1", "next max 0 1", "event 1 8 8 0", "event 1 8 -1 0", "event 1 8 max 0", "event 1 8 min 0",
        "event 2 2 0 0", "meanDark 2 1 1", "meanDark -1 1 1", "meanDark min 1 1", "meanDark max 1 1", "burden 2 0", "burden -1 0",
        "burden min 0", "burden max 0", "bestShift 2", "bestShift -1", "bestShift min", "bestShift max", "see 2 0 1",
        "see -1 0 1", "see min 0 1", "see max 0 1", "forget 2", "forget -1", "forget min", "forget max", "setMoon 2 0 100",
        "setMoon -1 0 100", "setMoon min 0 100", "setMoon max 0 100", "shift 2", "shift -1", "shift min", "shift max",
        "save 2", "save -1", "save min", "save max", "restore 2", "restore -1", "restore min", "restore max",
        "writtenByte 27", "writtenByte -1", "writtenByte min", "writtenByte max"};

    private static final String[] OUT_OF_RANGE = {
        "count -1", "count 6", "count min", "count max", "moon 0 -1", "moon 0 8", "moon 1 min", "moon 1 max",
        "sight 0 -1", "sight 1 4", "sight 0 min", "sight 0 max", "light -1", "light 1000001", "light min", "light max",
        "place 0 -1 0", "place 0 1000001 0", "place 0 min 0", "place 0 max 0", "place 0 0 -1", "place 0 0 4", "place 0 0 min",
        "place 0 0 max", "far 0 -1", "far 1 1000001", "far 0 min", "far 0 max", "state 0 -1", "state 1 1000001", "state 0 min",
        "state 0 max", "casts 0 -1", "casts 1 1000001", "casts 0 min", "casts 0 max", "shadedBy 0 -1", "shadedBy 1 1000001",
        "shadedBy 0 min", "shadedBy 0 max", "whyLit 0 -1", "whyLit 1 1000001", "whyLit 0 min", "whyLit 0 max",
        "meeting 0 1 -1", "meeting 0 1 1000001", "meeting 0 1 min", "meeting 0 1 max", "meeting 1 1 -1", "meeting 0 0 1000001",
        "ticks 0 -1 0 0", "ticks 0 1000001 1000001 0", "ticks 0 5 4 0", "ticks 0 5 5006 0", "ticks 0 999999 1000001 0",
        "ticks 0 min max 0", "ticks 0 max min 0", "ticks 0 0 max 0", "ticks 0 0 min 0", "ticks 0 min min 0", "ticks 0 max max 0",
        "ticks 0 0 0 -1", "ticks 0 0 0 3", "ticks 0 0 0 min", "ticks 0 0 0 max",
        "darkest -1 0", "darkest 1000001 1000001", "darkest 5 4", "darkest 5 2006", "darkest 999999 1000001", "darkest min max",
        "darkest 0 max", "darkest 0 min", "darkest max max", "darkest min min", "darkest max min",
        "next 0 -1 1", "next 0 4 1", "next 0 min 1", "next 0 max 1", "next 0 0 0", "next 0 0 -1", "next 0 0 1000001",
        "next 0 0 min", "next 0 0 max", "events 0 1", "events -1 1", "events 1000001 1000001", "events 5 4", "events 5 2006",
        "events 999999 1000001", "events min max", "events 1 max", "events 1 min", "events max max", "events min min",
        "event 0 1 0 0", "event 1000001 1000001 0 0", "event 5 4 0 0", "event 5 2006 0 0", "event 999999 1000001 0 0",
        "event min max 0 0", "event 1 max 0 0", "event 1 min 0 0", "event max max 0 0", "event 1 8 0 -1", "event 1 8 0 3",
        "event 1 8 0 min", "event 1 8 0 max", "meanDark 0 0 1", "meanDark 0 1000001 1000001", "meanDark 0 5 4",
        "meanDark 0 5 2006", "meanDark 0 999999 1000001", "meanDark 0 min max", "meanDark 0 1 max", "meanDark 0 1 min",
        "meanDark 0 max max", "burden 0 -11", "burden 0 11", "burden 0 min", "burden 0 max", "see 0 -1 1", "see 0 4 1",
        "see 0 min 1", "see 0 max 1", "see 0 0 0", "see 0 0 -1", "see 0 0 1000001", "see 0 0 min", "see 0 0 max",
        "setMoon 0 -1 100", "setMoon 0 6 0", "setMoon 0 7 0", "setMoon 0 min 100", "setMoon 0 max 100", "setMoon 0 0 1",
        "setMoon 0 0 10000", "setMoon 0 1 -1", "setMoon 0 1 61", "setMoon 0 2 -1", "setMoon 0 2 360", "setMoon 0 3 7",
        "setMoon 0 3 100000", "setMoon 0 4 -1", "setMoon 0 4 360", "setMoon 0 5 -1", "setMoon 0 5 100", "setMoon 0 0 min",
        "setMoon 0 0 max", "setMoon 0 5 min", "setMoon 0 5 max", "setLight -1 0", "setLight 360 0", "setLight 0 -1000",
        "setLight 0 1000", "setLight min 0", "setLight max 0", "setLight 0 min", "setLight 0 max", "setLight 360 1000",
        "writeTable 0 1", "writeTable 1000001 1000001", "writeTable 5 4", "writeTable 5 2006", "writeTable 999999 1000001",
        "writeTable min max", "writeTable 1 max", "writeTable 1 min", "writeTable max max"};

    /** Both exceptions apply: the one that is named first. */
    private static final String[] INDEX_FIRST = {
        "moon 2 8", "moon -1 -1", "sight 2 4", "sight -1 -1", "place 2 -1 4", "place 2 0 4", "place 2 1000001 0", "far 2 -1",
        "state 2 -1", "casts 2 1000001", "shadedBy 2 -1", "whyLit 2 1000001", "meeting 2 0 -1", "meeting 0 2 1000001",
        "meeting 2 2 -1", "ticks 2 -1 0 0", "ticks 2 5 4 0", "ticks 2 0 0 3", "next 2 4 1", "next 2 0 0", "meanDark 2 0 1",
        "meanDark 2 5 4", "burden 2 11", "see 2 4 1", "see 2 0 0", "setMoon 2 6 0", "setMoon 2 0 1", "setMoon 2 -1 -1",
        "restore 2"};
    private static final String[] ARGUMENT_FIRST = {
        "event 0 1 99 0", "event 5 4 -1 0", "event 5 2006 99999 0", "event 1 8 99 3", "event 1 8 -1 -1", "event 2 2 0 3"};

    public static void main(String[] args) {
        exceptions();
        emptySky();
        appendTooMuch();
        nothingToUndo();
        nothingSaved();
        refusals();
        textsWithErrors();
        eightStay();
        answersChangeNothing();
        Check.end();
    }

    /** Two moons, two sights, some changes, one of them undone, a saved sky, an error, a written text, a text in the buffer. */
    private static WanderingMoons rich() {
        WanderingMoons x = Skies.of("planet 10;light 0 1;moon io 100 0 0 8 0;moon eu 200 0 0 16 180 wide 2;"
                + "seen io dark 4;seen eu off 9;");
        x.save(0);
        x.setMoon(1, 4, 90);
        x.setLight(5, -3);
        x.see(0, 1, 30);
        x.undo();
        Skies.load(x, "planet 10;moon");
        Skies.fill(x, "seen io lit 40;");
        Check.same("the test's own written text", x.writeTable(1, 5), 27);
        return x;
    }

    /** As many of all as there can be: 6 moons, 30 sights, 8 changes, both slots, 600 bytes. */
    private static WanderingMoons full() {
        StringBuilder text = new StringBuilder("planet 10;");
        for (char name = 'a'; name <= 'f'; name++) {
            text.append("moon ").append(name).append(" 99 0 0 8 0;");
        }
        for (int time = 1; time <= 30; time++) {
            text.append("seen a lit ").append(time).append(';');
        }
        WanderingMoons x = Skies.of(text.toString());
        for (int k = 0; k < 9; k++) {
            x.setLight(0, k);
            x.save(k % 2);
        }
        Skies.load(x, "planet 10;light 400 1;");
        Skies.fill(x, "seen a dark 7;" + " ".repeat(586));
        x.writeTable(1, 1);
        return x;
    }

    private static void throwing(String[] calls, String due) {
        String before = Stand.of(rich());
        for (String call : calls) {
            WanderingMoons x = rich();
            Check.same("7: " + call, Calls.answer(x, call), due);
            Check.same("7: " + call + " changes nothing", Stand.of(x), before);
        }
    }

    private static void exceptions() {
        throwing(NONE_SUCH, INDEX);
        throwing(OUT_OF_RANGE, ARGUMENT);
        throwing(INDEX_FIRST, INDEX);
        throwing(ARGUMENT_FIRST, ARGUMENT);
        String before = Stand.of(full());
        for (String call : new String[] {"moon 6 0", "sight 30 0", "see 6 0 1", "forget 30", "setMoon 6 0 100", "shift 6",
            "burden 6 0", "bestShift 6", "place 6 0 0", "meeting 5 6 0", "meeting 6 5 0", "shadedBy 6 0", "next 6 0 1"}) {
            WanderingMoons x = full();
            Check.same("7: full, " + call, Calls.answer(x, call), INDEX);
            Check.same("7: full, " + call + " changes nothing", Stand.of(x), before);
        }
    }

    /** In a sky without moons and sights there is none for any number. */
    private static void emptySky() {
        String before = Stand.of(new WanderingMoons());
        for (String call : new String[] {"moon 0 0", "sight 0 0", "place 0 0 0", "far 0 0", "state 0 0", "casts 0 0", "shadedBy 0 0",
            "whyLit 0 0", "meeting 0 0 0", "ticks 0 0 0 0", "next 0 0 1", "event 1 2001 0 0", "meanDark 0 1 1", "burden 0 0",
            "bestShift 0", "see 0 0 1", "forget 0", "setMoon 0 0 100", "shift 0", "writtenByte 0"}) {
            WanderingMoons x = new WanderingMoons();
            Check.same("1: new, " + call, Calls.answer(x, call), INDEX);
            Check.same("1: new, " + call + " changes nothing", Stand.of(x), before);
        }
        Calls.due("1: new", new WanderingMoons(), "count 0", "10", "count 1", "0", "count 2", "0", "count 3", "0", "count 4", "0",
                "count 5", "0", "errorPosition", "-1", "light 0", "0", "light 1000000", "0", "darkest 0 2000", "-1",
                "events 1 2001", "0", "worst", "-1", "writeTable 1 2001", "0", "writtenByte 0", INDEX, "restore 0", STATE,
                "restore 1", STATE, "undo", STATE, "append 0 0 0 0 0", "0", "read", "0", "undo", "0", "undo", STATE);
    }

    private static void appendTooMuch() {
        String before = Stand.of(full());
        for (String call : new String[] {"append 32 0 0 0 0", "append 0 0 0 0 536870912", "append -1 -1 -1 -1 -1",
            "append min 0 0 0 0", "append 0 0 8192 0 0"}) {
            WanderingMoons x = full();
            Check.same("2: " + call + " would be more than 600", Calls.answer(x, call), STATE);
            Check.same("2: " + call + " changes nothing", Stand.of(x), before);
        }
        WanderingMoons x = full();
        Check.same("2: nothing more than 600", Calls.answer(x, "append 0 0 0 0 0"), "600");
        Check.same("2: nothing changes nothing", Stand.of(x), before);
    }

    private static void nothingToUndo() {
        WanderingMoons x = rich();
        WanderingMoons twin = rich();
        for (WanderingMoons one : new WanderingMoons[] {x, twin}) {
            Calls.due("32: all undone", one, "undo", "2", "undo", "1", "undo", "0");
        }
        Calls.due("32: nothing to undo", x, "undo", STATE, "undo", STATE);
        Check.same("32: nothing to undo changes nothing", Stand.of(x), Stand.of(twin));
    }

    private static void nothingSaved() {
        WanderingMoons x = rich();
        Check.same("34: nothing saved in 1", Calls.answer(x, "restore 1"), STATE);
        Check.same("34: no slot, though nothing is saved", Calls.answer(x, "restore 2"), INDEX);
        Check.same("34: nothing saved changes nothing", Stand.of(x), Stand.of(rich()));
    }

    private static void refusals() {
        String before = Stand.of(rich());
        // io fits with 12 and more, eu with a radius of 2 with 13 and more
        String[] calls = {"see 0 0 4", "-12", "see 1 3 9", "-12", "setMoon 0 0 11", "-13", "setMoon 0 0 2", "-13",
            "setMoon 1 0 12", "-13", "setMoon 0 5 90", "-13", "setMoon 0 5 99", "-13"};
        for (int k = 0; k < calls.length; k += 2) {
            WanderingMoons x = rich();
            Check.same("6: " + calls[k], Calls.answer(x, calls[k]), calls[k + 1]);
            Check.same("6: " + calls[k] + " changes nothing", Stand.of(x), before);
        }
        String beforeFull = Stand.of(full());
        String[] refused = {"see 0 0 1", "-11", "see 5 3 1000000", "-11", "see 0 1 30", "-11", "see 0 1 1", "-11",
            "setMoon 5 0 11", "-13", "setMoon 5 5 89", "-13"};
        for (int k = 0; k < refused.length; k += 2) {
            WanderingMoons x = full();
            Check.same("6: full, " + refused[k], Calls.answer(x, refused[k]), refused[k + 1]);
            Check.same("6: full, " + refused[k] + " changes nothing, nor is an older change lost", Stand.of(x), beforeFull);
        }
    }

    /** A text with an error is no change: only the buffer and the position of the error are other ones. */
    private static void textsWithErrors() {
        String[] texts = {"", "planet 0;", "planet 10;moon a 11 0 0 8 0;", "planet 5;moon io 90 0 0 8 0;seen eu dark 5;",
            "planet 5;light 3 4;moon a 90 0 0 8 0;moon a", "planet 5;light 3 4;moon a 90 0 0 8 0;seen a dark 5;seen a dark 5;"};
        String[] sights = {"seen", "seen io off 1;seen io off 2;seen io off 0;", "seen io off 1;seen ei off 1;",
            "seen io off 1;seen io dark 4;", "planet 5;", "seen io off 1;;"};
        String before = Stand.ofSky(cleared(rich()));
        String beforeFull = Stand.ofSky(cleared(full()));
        for (String text : texts) {
            WanderingMoons x = cleared(rich());
            Check.same("6: error in load of \"" + text + "\"", Skies.load(x, text) < -1, true);
            Check.same("3: empty buffer after it", x.append(0, 0, 0, 0, 0), 0);
            Check.same("6: no change by load of \"" + text + "\"", Stand.ofSky(x), before);
            WanderingMoons y = cleared(full());
            Check.same("6: error in load of \"" + text + "\"", Skies.load(y, text) < -1, true);
            Check.same("6: full, no change by load of \"" + text + "\"", Stand.ofSky(y), beforeFull);
        }
        for (String text : sights) {
            WanderingMoons x = cleared(rich());
            Check.same("6: error in read of \"" + text + "\"", Skies.read(x, text) < -1, true);
            Check.same("4: empty buffer after it", x.append(0, 0, 0, 0, 0), 0);
            Check.same("6: no change by read of \"" + text + "\"", Stand.ofSky(x), before);
            WanderingMoons y = cleared(full());
            Check.same("6: error in read of \"" + text + "\"", Skies.read(y, text) < -1, true);
            Check.same("6: full, no change by read of \"" + text + "\"", Stand.ofSky(y), beforeFull);
        }
    }

    /** The same without the text in the buffer: sights are no sky, so that loading them is no change. */
    private static WanderingMoons cleared(WanderingMoons x) {
        x.load();
        return x;
    }

    private static void eightStay() {
        WanderingMoons x = full();
        for (int k = 7; k >= 0; k--) {
            Check.same("6: the latest 8 can be undone, " + k, x.undo() + " " + x.count(2), k + " " + k);
        }
        Calls.due("6: older ones cannot", x, "undo", STATE, "count 2", "0", "count 4", "30");
    }

    /** What only asks changes nothing: in what stands before and behind it, all is the same. */
    private static void answersChangeNothing() {
        String before = Stand.of(rich());
        for (String call : new String[] {"errorPosition", "count 5", "moon 0 7", "moon 1 6", "sight 0 3", "sine 77", "light 9",
            "place 1 9 3", "far 0 9", "state 0 4", "casts 1 9", "shadedBy 0 8", "whyLit 0 3", "meeting 0 1 0", "ticks 0 0 99 0",
            "darkest 0 99", "next 0 0 1", "events 1 99", "event 1 8 0 0", "meanDark 0 1 99", "worst", "burden 0 0",
            "burden 0 10", "burden 1 -10", "bestShift 0", "bestShift 1", "writtenByte 0", "append 0 0 0 0 0"}) {
            WanderingMoons x = rich();
            Check.same("7: " + call + " throws nothing", Calls.answer(x, call).startsWith("throws"), false);
            Check.same("7: " + call + " changes nothing", Stand.of(x), before);
        }
    }
}

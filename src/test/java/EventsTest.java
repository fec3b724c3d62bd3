/** Promises 20 to 23, 35 and 36: next, events, event, meanDark, writeTable, writtenByte. */
public final class EventsTest {
    private static final String ONE = "planet 10;moon io 100 0 0 8 0;";
    private static final String THREE = "planet 10;moon abcdefgh 100 0 0 8 0;moon b 100 0 0 8 0;moon c 100 0 0 8 180;";
    private static final String FIVE = "planet 40;light 120 -37;moon io 130 5 20 37 10 wide 3;moon eu 260 30 200 119 300;"
            + "moon ga 477 12 90 263 77 wide 8;moon ca 900 55 310 1201 5 wide 20;moon am 90 0 0 19 181;";

    public static void main(String[] args) {
        nexts();
        nextEdges();
        counting();
        table();
        meanDark();
        writing();
        writtenBytes();
        refusals();
        Check.end();
    }

    private static void nexts() {
        WanderingMoons x = Skies.of(ONE);
        int[][] due = {{4, 4, 4, 4, 12, 12}, {5, 5, 5, 5, 5, 13}, {8, 8, 8, 8, 8, 8}, {1, 9, 9, 9, 9, 9}};
        for (int kind = 0; kind < 4; kind++) {
            for (int from = 1; from <= 6; from++) {
                Check.same("20: next(0, " + kind + ", " + from + ")", x.next(0, kind, from), due[kind][from - 1]);
            }
        }
        Check.same("20: at the end", x.next(0, 2, 1000000), 1000000);
        Check.same("20: just ahead of the end", x.next(0, 2, 999993), 1000000);
        Check.same("20: none behind the end", x.next(0, 3, 1000000), -1);
        Check.same("20: the last dark one", x.next(0, 0, 999989), 999996);
        Check.same("20: none behind the last one", x.next(0, 0, 999997), -1);
        WanderingMoons five = Skies.of(FIVE);
        Check.same("20: next(1, 1, 501)", five.next(1, 1, 501), 591);
        Check.same("20: next(3, 3, 1501)", five.next(3, 3, 1501), 1895);
    }

    private static void nextEdges() {
        // a round of 99999 ticks, dark at half of it
        WanderingMoons x = Skies.of("planet 10;moon a 100 0 0 99999 0;");
        int dark = 48269;
        Check.same("20: lit at first", x.state(0, dark - 1), 0);
        Check.same("20: at the tick itself", x.next(0, 0, dark), dark);
        Check.same("20: not behind it", x.next(0, 0, dark + 1), -1);
        Check.same("20: 5000 later", x.next(0, 0, dark - 5000), dark);
        Check.same("20: 5001 later", x.next(0, 0, dark - 5001), -1);
        int whole = 48583;
        Check.same("20: partly dark comes first", x.state(0, dark) + " " + x.state(0, whole - 1), "1 1");
        Check.same("20: then wholly", x.state(0, whole), 2);
        Check.same("20: from partly to wholly dark is no event", x.events(dark + 1, whole), 0);
    }

    private static void counting() {
        WanderingMoons x = Skies.of(ONE);
        Check.same("21: a round", x.events(1, 8), 4);
        Check.same("21: both times count", x.events(4, 5), 2);
        Check.same("21: one tick", x.events(8, 8), 1);
        Check.same("21: one tick without", x.events(7, 7), 0);
        Check.same("21: longest", x.events(1, 2001), 1001);
        Check.same("21: at the end", x.events(998000, 1000000), 1001);
        Check.same("21: the last tick", x.events(1000000, 1000000), 1);
        Check.same("21: no moons", new WanderingMoons().events(1, 2001), 0);
        Check.same("21: three moons", Skies.of(THREE).events(1, 8), 12);
        Check.same("21: what holds at the first tick already is no event", x.events(6, 7), 0);
    }

    private static void row(WanderingMoons x, int from, int to, int place, int... due) {
        for (int what = 0; what < 3; what++) {
            Check.same("22: event " + place + " of " + from + " to " + to + ", " + what, x.event(from, to, place, what),
                    due[what]);
        }
    }

    private static void table() {
        WanderingMoons x = Skies.of(THREE);
        int[][] due = {{1, 0, 3}, {1, 1, 3}, {1, 2, 1}, {4, 0, 0}, {4, 1, 0}, {4, 2, 2}, {5, 0, 1}, {5, 1, 1}, {5, 2, 3},
            {8, 0, 2}, {8, 1, 2}, {8, 2, 0}};
        for (int place = 0; place < due.length; place++) {
            row(x, 1, 8, place, due[place]);
        }
        row(x, 4, 4, 2, 4, 2, 2);
        row(x, 1000000, 1000000, 2, 1000000, 2, 0);
        Check.index("22: behind the last one", () -> x.event(1, 8, 12, 0));
        Check.index("22: place -1", () -> x.event(1, 8, -1, 0));
        Check.index("22: far behind the last one", () -> x.event(1, 8, Integer.MAX_VALUE, 0));
        Check.index("22: far ahead of the first one", () -> x.event(1, 8, Integer.MIN_VALUE, 0));
        Check.index("22: an empty table", () -> x.event(2, 3, 0, 0));
        Check.index("22: no moons", () -> new WanderingMoons().event(1, 8, 0, 0));
        bothKinds();
    }

    /** So near to so large a planet a moon is dark or casts its shadow at nearly all times. */
    private static void bothKinds() {
        WanderingMoons quick = Skies.of("planet 999;light 0 999;moon a 1001 0 0 8 0;moon b 1001 0 0 8 0;");
        int kinds = 0;
        int before = -1;
        for (int place = 0; place < quick.events(1, 40); place++) {
            int key = quick.event(1, 40, place, 0) * 100 + quick.event(1, 40, place, 1) * 10 + quick.event(1, 40, place, 2);
            Check.same("22: in their order, " + place, key > before, true);
            kinds |= 1 << key % 10;
            before = key;
        }
        Check.same("22: all kinds are there", kinds, 15);
        // from dark to casting at once, with lit in front of cast
        boolean atOnce = false;
        for (int time = 1; time <= 40; time++) {
            if (quick.events(time, time) == 4 && quick.event(time, time, 0, 2) == 1) {
                row(quick, time, time, 0, time, 0, 1);
                row(quick, time, time, 1, time, 0, 2);
                row(quick, time, time, 2, time, 1, 1);
                row(quick, time, time, 3, time, 1, 2);
                atOnce = true;
            }
        }
        Check.same("22: there are two kinds at one time", atOnce, true);
    }

    private static void meanDark() {
        WanderingMoons x = Skies.of(ONE);
        Check.same("23: each a tick", x.meanDark(0, 1, 20), 1.0);
        Check.same("23: dark at 4, lit at 5", x.meanDark(0, 4, 5), 1.0);
        Check.same("23: without the dark one", x.meanDark(0, 5, 11), 0.0);
        Check.same("23: without the lit one", x.meanDark(0, 1, 4), 0.0);
        Check.same("23: nothing at all", x.meanDark(0, 6, 7), 0.0);
        Check.same("23: longest", x.meanDark(0, 1, 2001), 1.0);
        Check.same("23: at the end", x.meanDark(0, 999000, 1000000), 1.0);
        WanderingMoons five = Skies.of(FIVE);
        Check.same("23: io", five.meanDark(0, 1, 1500), 3.857142857142857);
        Check.same("23: eu", five.meanDark(1, 1, 1500), 5.071428571428571);
        Check.same("23: ga", five.meanDark(2, 1, 1500), 6.857142857142857);
        Check.same("23: ca", five.meanDark(3, 1, 1500), 11.0);
        int dark = five.next(0, 0, 1);
        int lit = five.next(0, 1, dark);
        Check.same("23: one time", five.meanDark(0, dark, lit), (double) (lit - dark));
        Check.same("23: the lit one at first does not count", five.meanDark(0, dark + 1, lit), 0.0);
    }

    private static void writes(WanderingMoons x, int from, int to, String due) {
        String call = "35: writeTable(" + from + ", " + to + ")";
        Check.same(call, x.writeTable(from, to), due.length());
        Check.same(call + " writes", Skies.written(x, due.length()), due);
        Check.index(call + " has no more", () -> x.writtenByte(due.length()));
    }

    private static void writing() {
        WanderingMoons x = Skies.of(THREE);
        writes(x, 1, 5, "1 off abcdefgh,1 off b,1 lit c,4 dark abcdefgh,4 dark b,4 cast c,5 lit abcdefgh,5 lit b,5 off c");
        writes(x, 2, 3, "");
        writes(x, 1000000, 1000000, "1000000 cast abcdefgh,1000000 cast b,1000000 dark c");
        writes(x, 8, 8, "8 cast abcdefgh,8 cast b,8 dark c");
        WanderingMoons one = Skies.of(ONE);
        WanderingMoons other = Skies.of(ONE);
        writes(one, 1, 40, "1 off io,4 dark io,5 lit io,8 cast io,9 off io,12 dark io,13 lit io,16 cast io,"
                + "17 off io,20 dark io,21 lit io,24 cast io,25 off io,28 dark io,29 lit io,32 cast io,"
                + "33 off io,36 dark io,37 lit io,40 cast io");
        writes(one, 4, 2004, "4 dark io,5 lit io,8 cast io,9 off io,12 dark io,13 lit io,16 cast io,"
                + "17 off io,20 dark io,21 lit io,24 cast io,25 off io,28 dark io,29 lit io,32 cast io,"
                + "33 off io,36 dark io,37 lit io,40 cast io,41 off io");
        writes(other, 96, 108, "96 cast io,97 off io,100 dark io,101 lit io,104 cast io,105 off io,108 dark io");
        writes(other, 100000, 100004, "100000 cast io,100001 off io,100004 dark io");
        writes(new WanderingMoons(), 1, 2001, "");
        longest();
    }

    /** 20 events of the greatest length: seven digits can't be had but at 1000000, six are. */
    private static void longest() {
        StringBuilder text = new StringBuilder("planet 10;");
        for (char last = 'a'; last <= 'f'; last++) {
            text.append("moon abcdefg").append(last).append(" 100 0 0 8 180;");
        }
        WanderingMoons x = Skies.of(text.toString());
        int length = x.writeTable(999996, 1000000);
        StringBuilder due = new StringBuilder();
        String[] kinds = {"999996 cast ", "999997 off ", "1000000 dark "};
        for (String kind : kinds) {
            for (char last = 'a'; last <= 'f'; last++) {
                due.append(due.length() == 0 ? "" : ",").append(kind).append("abcdefg").append(last);
            }
        }
        Check.same("35: long names", Skies.written(x, length), due.toString());
    }

    private static void writtenBytes() {
        WanderingMoons x = Skies.of(ONE);
        Check.index("36: none at first", () -> x.writtenByte(0));
        x.writeTable(4, 4);
        Check.same("36: first", x.writtenByte(0), (int) '4');
        Check.same("36: last", x.writtenByte(8), (int) 'o');
        Check.index("36: behind the last one", () -> x.writtenByte(9));
        Check.index("36: -1", () -> x.writtenByte(-1));
        Check.index("36: greatest", () -> x.writtenByte(Integer.MAX_VALUE));
        Check.argument("35: refused", () -> x.writeTable(0, 4));
        Check.same("36: a refused call writes nothing", Skies.written(x, 9), "4 dark io");
        Skies.load(x, "planet 9;");
        x.undo();
        x.undo();
        Check.same("36: no change touches it", Skies.written(x, 9), "4 dark io");
        x.writeTable(1, 1);
        Check.index("36: in place of what was written", () -> x.writtenByte(0));
    }

    private static void refusals() {
        WanderingMoons x = Skies.of(ONE);
        Check.index("20: moon 1", () -> x.next(1, 0, 1));
        Check.index("20: moon -1", () -> x.next(-1, 0, 1));
        Check.argument("20: kind -1", () -> x.next(0, -1, 1));
        Check.argument("20: kind 4", () -> x.next(0, 4, 1));
        Check.argument("20: from 0", () -> x.next(0, 0, 0));
        Check.argument("20: from 1000001", () -> x.next(0, 0, 1000001));
        Check.index("20: the moon first", () -> x.next(1, 4, 0));
        Check.argument("21: from 0", () -> x.events(0, 8));
        Check.argument("21: to less than from", () -> x.events(8, 7));
        Check.argument("21: 2001 later", () -> x.events(8, 2009));
        Check.argument("21: to 1000001", () -> x.events(999999, 1000001));
        Check.argument("21: from 1000001", () -> x.events(1000001, 1000001));
        Check.argument("22: from 0", () -> x.event(0, 8, 0, 0));
        Check.argument("22: to less than from", () -> x.event(8, 7, 0, 0));
        Check.argument("22: 2001 later", () -> x.event(8, 2009, 0, 0));
        Check.argument("22: to 1000001", () -> x.event(999999, 1000001, 0, 0));
        Check.argument("22: what -1", () -> x.event(1, 8, 0, -1));
        Check.argument("22: what 3", () -> x.event(1, 8, 0, 3));
        Check.argument("22: what before the place", () -> x.event(1, 8, -1, 3));
        Check.argument("22: times before the place", () -> x.event(0, 8, 99, 0));
        Check.index("23: moon 1", () -> x.meanDark(1, 1, 8));
        Check.index("23: moon -1", () -> x.meanDark(-1, 1, 8));
        Check.argument("23: from 0", () -> x.meanDark(0, 0, 8));
        Check.argument("23: to less than from", () -> x.meanDark(0, 8, 7));
        Check.argument("23: 2001 later", () -> x.meanDark(0, 8, 2009));
        Check.argument("23: to 1000001", () -> x.meanDark(0, 999999, 1000001));
        Check.index("23: the moon first", () -> x.meanDark(1, 0, 8));
        Check.argument("35: from 0", () -> x.writeTable(0, 8));
        Check.argument("35: to less than from", () -> x.writeTable(8, 7));
        Check.argument("35: 2001 later", () -> x.writeTable(8, 2009));
        Check.argument("35: to 1000001", () -> x.writeTable(999999, 1000001));
    }
}

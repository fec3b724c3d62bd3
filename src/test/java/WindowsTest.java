/** Promises 17 to 26, 35 and 36: the longest spans of time, the first and last of a table, 20 events, 10 and 3 degrees. */
public final class WindowsTest {
    private static final String INDEX = "throws.IndexOutOfBoundsException";
    private static final String ARGUMENT = "throws.IllegalArgumentException";
    /** Dark at 4, lit at 5, cast at 8, off at 9, and so on every 8 ticks; off at 1. */
    private static final String ONE = "planet 10;moon io 100 0 0 8 0;";
    private static final String SLOW = "planet 10;moon a 100 0 0 36000 0;";

    public static void main(String[] args) {
        spans();
        spansAtTheEnd();
        tableEnds();
        lastOfALongTable();
        meanDark();
        darkest();
        worst();
        tenDegrees();
        threeDegrees();
        nearestToNone();
        twentyEvents();
        longestText();
        bytes();
        Check.end();
    }

    private static void spans() {
        WanderingMoons x = Skies.of(ONE);
        Calls.due("at most 5000 later", x, "ticks 0 0 5000 0", "4376", "ticks 0 0 5001 0", ARGUMENT, "ticks 0 7 5007 0", "4376",
                "ticks 0 7 5008 0", ARGUMENT, "ticks 0 7 7 0", "1", "ticks 0 7 6 0", ARGUMENT, "ticks 0 0 5000 2", "625",
                "ticks 0 0 5000 1", "0");
        Calls.due("at most 2000 later", x, "darkest 0 2000", "4", "darkest 0 2001", ARGUMENT, "darkest 7 2007", "12",
                "darkest 7 2008", ARGUMENT, "darkest 7 6", ARGUMENT, "events 1 2001", "1001", "events 1 2002", ARGUMENT,
                "events 7 2007", "1000", "events 7 2008", ARGUMENT, "events 7 6", ARGUMENT, "event 1 2001 0 0", "1",
                "event 1 2002 0 0", ARGUMENT, "event 7 6 0 0", ARGUMENT, "meanDark 0 1 2001", "1.0", "meanDark 0 1 2002", ARGUMENT,
                "meanDark 0 7 6", ARGUMENT, "writeTable 7 6", ARGUMENT, "writeTable 1 2002", ARGUMENT);
        Check.same("at most 2000 later, written", x.writeTable(1, 2001), x.writeTable(1, 40));
        WanderingMoons slow = Skies.of(SLOW);
        Calls.due("at most 5000 later, found", slow, "next 0 0 12377", "17377", "next 0 0 12376", "-1", "next 0 1 13624", "18624",
                "next 0 1 13623", "-1", "next 0 2 30377", "35377", "next 0 2 30376", "-1", "next 0 3 31624", "36624",
                "next 0 3 31623", "-1");
        Calls.due("at most 2000 later, found", slow, "events 15377 17377", "1", "event 15377 17377 0 0", "17377",
                "events 15376 17376", "0", "darkest 15377 17377", "17377", "darkest 15376 17376", "-1",
                "ticks 0 12377 17377 0", "5000", "ticks 0 12377 17377 1", "1", "ticks 0 12376 17376 0", "5001");
    }

    private static void spansAtTheEnd() {
        WanderingMoons x = Skies.of(ONE);
        Calls.due("to 1000000", x, "ticks 0 995000 1000000 0", "4376", "ticks 0 995001 1000001 0", ARGUMENT,
                "ticks 0 1000000 1000000 0", "1", "ticks 0 1000000 1000001 0", ARGUMENT, "darkest 998000 1000000", "998004",
                "darkest 998001 1000001", ARGUMENT, "darkest 1000000 1000000", "-1", "darkest 1000000 1000001", ARGUMENT,
                "events 998000 1000000", "1001", "events 998001 1000001", ARGUMENT, "events 1000000 1000001", ARGUMENT,
                "event 998000 1000000 1000 0", "1000000", "event 998001 1000001 0 0", ARGUMENT, "meanDark 0 998000 1000000", "1.0",
                "meanDark 0 998001 1000001", ARGUMENT, "writeTable 998001 1000001", ARGUMENT, "writeTable 1000000 1000001", ARGUMENT,
                "next 0 0 999996", "999996", "next 0 0 999997", "-1", "next 0 2 1000000", "1000000", "next 0 2 1000001", ARGUMENT);
        Calls.due("from 1 or from 0", x, "events 1 1", "1", "events 0 1", ARGUMENT, "event 1 1 0 2", "3", "event 0 1 0 2", ARGUMENT,
                "meanDark 0 1 5", "1.0", "meanDark 0 0 5", ARGUMENT, "writeTable 1 1", "8", "writeTable 0 1", ARGUMENT,
                "next 0 3 1", "1", "next 0 3 0", ARGUMENT, "ticks 0 0 0 0", "1", "ticks 0 -1 0 0", ARGUMENT, "darkest 0 4", "4",
                "darkest -1 4", ARGUMENT);
    }

    /** From the first time to the last one: both count, what was before does not. */
    private static void tableEnds() {
        WanderingMoons x = Skies.of(ONE);
        Calls.due("4: from the first time to the last one", x, "events 4 9", "4", "events 5 9", "3", "events 5 8", "2", "events 4 8",
                "3", "event 4 9 0 0", "4", "event 5 9 0 0", "5", "event 5 8 1 0", "8", "event 5 8 2 0", INDEX, "event 4 9 3 2", "3",
                "event 4 9 4 2", INDEX, "event 6 7 0 0", INDEX, "event 4 4 0 1", "0", "event 4 4 -1 1", INDEX);
    }

    private static void lastOfALongTable() {
        WanderingMoons x = Skies.of(ONE);
        Calls.due("22: the last one of 1001", x, "event 1 2001 1000 0", "2001", "event 1 2001 1000 2", "3", "event 1 2001 1001 0",
                INDEX, "event 1 2001 999 0", "2000", "event 1 2001 999 2", "2", "event 1 2001 max 2", INDEX);
        StringBuilder text = new StringBuilder("planet 10;");
        for (char name = 'a'; name <= 'f'; name++) {
            text.append("moon ").append(name).append(" 100 0 0 8 0;");
        }
        WanderingMoons six = Skies.of(text.toString());
        Calls.due("22: the last one of 6006", six, "events 1 2001", "6006", "event 1 2001 6005 0", "2001", "event 1 2001 6005 1", "5",
                "event 1 2001 6006 0", INDEX, "event 1 2001 5 0", "1", "event 1 2001 5 1", "5", "event 1 2001 6 0", "4");
    }

    /** Only a lit event with a dark one ahead of it in the table counts. */
    private static void meanDark() {
        WanderingMoons x = Skies.of(ONE);
        Calls.due("23: ends", x, "meanDark 0 4 5", "1.0", "meanDark 0 5 5", "0.0", "meanDark 0 4 4", "0.0", "meanDark 0 5 12", "0.0",
                "meanDark 0 5 13", "1.0", "meanDark 0 1 3", "0.0", "meanDark 0 1 12", "1.0");
        WanderingMoons slow = Skies.of(SLOW);
        Calls.due("23: one long time", slow, "meanDark 0 17377 18624", "1247.0", "meanDark 0 17378 18624", "0.0",
                "meanDark 0 17377 18623", "0.0", "meanDark 0 16624 18624", "1247.0");
        WanderingMoons uneven = Skies.of("planet 40;light 120 -37;moon io 130 5 20 37 10 wide 3;");
        int sum = 0;
        int many = 0;
        int dark = -1;
        for (int place = 0; place < uneven.events(1, 600); place++) {
            int kind = uneven.event(1, 600, place, 2);
            int time = uneven.event(1, 600, place, 0);
            if (kind == 0) {
                dark = time;
            } else if (kind == 1 && dark > 0) {
                sum += time - dark;
                many++;
            }
        }
        Check.same("23: there are several", many > 2 && sum % many != 0, true);
        Check.same("23: not a whole number", uneven.meanDark(0, 1, 600), (double) sum / many);
    }

    private static void darkest() {
        // a is dark at 4, 12, 20, .. and b at 8, 20, 32, ..
        WanderingMoons x = Skies.of("planet 10;moon a 100 0 0 8 0;moon b 100 0 0 12 300;");
        Calls.due("19: the first such time", x, "darkest 0 19", "4", "darkest 0 20", "20", "darkest 0 100", "20", "darkest 20 20", "20",
                "darkest 21 43", "28", "darkest 21 44", "44", "darkest 5 7", "-1", "darkest 5 8", "8", "darkest 0 3", "-1");
        // of a sky before there are no moons left that could be dark
        Skies.load(x, "planet 10;moon a 100 0 0 8 0;");
        Calls.due("19: one moon", x, "darkest 5 11", "-1", "darkest 5 100", "12", "events 8 8", "1");
        Skies.load(x, "planet 10;");
        Calls.due("19: no moon", x, "darkest 0 2000", "-1", "events 1 2001", "0", "writeTable 1 2001", "0");
    }

    private static void worst() {
        WanderingMoons x = Skies.of(SLOW);
        Calls.due("24: none at all, lost ones, and one", x, "worst", "-1", "see 0 0 1", "0", "worst", "-1", "see 0 0 17377", "1",
                "worst", "1", "see 0 0 17376", "2", "worst", "2", "see 0 0 17378", "3", "worst", "2", "see 0 0 17777", "4",
                "worst", "4", "see 0 0 16977", "5", "worst", "4", "see 0 0 17778", "6", "worst", "4", "forget 4", "6", "worst", "4",
                "sight 4 3", "400", "forget 4", "5", "worst", "2");
    }

    /** Sights of a moon so much behind its dark event at 17377; a degree more makes it earlier by 100 ticks. */
    private static WanderingMoons slow(int... behind) {
        WanderingMoons x = Skies.of(SLOW);
        for (int ticks : behind) {
            x.see(0, 0, 17377 + ticks);
        }
        return x;
    }

    private static void tenDegrees() {
        WanderingMoons x = slow(1000, -1000);
        Calls.due("25: -10 to 10", x, "burden 0 -10", "401", "burden 0 10", "401", "burden 0 -11", ARGUMENT, "burden 0 11", ARGUMENT,
                "burden 0 -9", "501", "burden 0 9", "501", "burden 0 0", "802", "moon 0 4", "0", "moon 0 7", "802", "undo", "2");
        for (int place : new int[] {0, 9, 10, 350, 351, 359}) {
            WanderingMoons round = Skies.of("planet 10;moon a 100 0 0 36000 " + place + ";");
            int dark = Skies.darkTime(round, 0);
            if (dark > 1000) {
                round.see(0, 0, dark - 1000);
                Check.same("25: 10 degrees more than " + place, round.burden(0, 10), 0);
                round.forget(0);
            }
            round.see(0, 0, dark + 1000);
            Check.same("25: 10 degrees less than " + place, round.burden(0, -10), 0);
        }
    }

    private static void threeDegrees() {
        int[] behind = {300, -300, 400, -400, 699, -699, 700, -700, 701, -701, 50, -50, 51, -51, 150, 151, 249, 250, 251, 350};
        int[] due = {-3, 3, -3, 3, -3, 3, -3, 3, 0, 0, 0, 0, -1, 1, -1, -2, -2, -2, -3, -3};
        for (int k = 0; k < behind.length; k++) {
            Calls.due("26: -3 to 3, " + behind[k], slow(behind[k]), "bestShift 0", "" + due[k], "moon 0 4", "0");
        }
    }

    /** Of several the one nearest to 0, of these the negative one. */
    private static void nearestToNone() {
        Calls.due("26: without sights all are alike", Skies.of(SLOW), "bestShift 0", "0", "shift 0", "0", "moon 0 4", "0");
        Calls.due("26: lost ones are alike", slow(5000), "bestShift 0", "0", "shift 0", "401", "moon 0 4", "0");
        Calls.due("26: -1 and 1", slow(450, -450, 0), "burden 0 -1", "" + (350 + 401 + 100), "burden 0 1", "" + (350 + 401 + 100),
                "burden 0 0", "802", "bestShift 0", "0");
        Calls.due("26: -3 and 3", slow(450, -450), "burden 0 -3", "551", "burden 0 3", "551", "bestShift 0", "-3");
        Calls.due("26: -2 and 2", slow(600, 200, -200, -600), "burden 0 -2", "1201", "burden 0 2", "1201", "burden 0 3", "1202",
                "burden 0 -3", "1202", "burden 0 1", "1202", "burden 0 0", "1202", "bestShift 0", "-2");
        Calls.due("26: -2 and -3", slow(250), "burden 0 -2", "50", "burden 0 -3", "50", "bestShift 0", "-2");
        Calls.due("26: 2 and 3", slow(-250), "burden 0 2", "50", "burden 0 3", "50", "bestShift 0", "2");
        Calls.due("26: 0 and -1", slow(50), "burden 0 0", "50", "burden 0 -1", "50", "bestShift 0", "0");
    }

    private static String table(int events) {
        String[] kinds = {"dark", "lit", "cast", "off"};
        int[] times = {4, 5, 8, 9};
        StringBuilder text = new StringBuilder();
        for (int k = 0; k < events; k++) {
            text.append(k > 0 ? "," : "").append(times[k % 4] + k / 4 * 8).append(' ').append(kinds[k % 4]).append(" io");
        }
        return text.toString();
    }

    private static void twentyEvents() {
        for (int events = 0; events <= 23; events++) {
            WanderingMoons x = Skies.of(ONE);
            int last = events == 0 ? 3 : new int[] {4, 5, 8, 9}[(events - 1) % 4] + (events - 1) / 4 * 8;
            String due = table(Math.min(events, 20));
            Check.same("35: there are " + events, x.events(2, last), events);
            Check.same("35: the first 20 of " + events, x.writeTable(2, last), due.length());
            Check.same("35: the first 20 of " + events, Skies.written(x, due.length()), due);
            Calls.due("36: no more than " + due.length(), x, "writtenByte " + due.length(), INDEX, "writtenByte -1", INDEX);
        }
        WanderingMoons six = Skies.of("planet 10;moon a 100 0 0 8 0;moon b 100 0 0 8 0;moon c 100 0 0 8 0;moon d 100 0 0 8 0;"
                + "moon e 100 0 0 8 0;moon f 100 0 0 8 0;");
        String due = "4 dark a,4 dark b,4 dark c,4 dark d,4 dark e,4 dark f,5 lit a,5 lit b,5 lit c,5 lit d,5 lit e,5 lit f,"
                + "8 cast a,8 cast b,8 cast c,8 cast d,8 cast e,8 cast f,9 off a,9 off b";
        Check.same("35: 20 of 24", six.writeTable(2, 9), due.length());
        Check.same("35: 20 of 24", Skies.written(six, due.length()), due);
    }

    /** 20 events of which 12 have all seven digits of the last time and 12 a kind of four letters. */
    private static void longestText() {
        StringBuilder text = new StringBuilder("planet 999;light 106 -518;");
        String[] moons = {"1003 0 0 16 254", "1003 0 0 16 254", "1003 0 0 16 254", "1003 0 0 16 254", "1002 0 0 16 64",
            "1001 0 0 13 225"};
        for (int k = 0; k < 6; k++) {
            text.append("moon abcdefg").append((char) ('a' + k)).append(' ').append(moons[k]).append(';');
        }
        StringBuilder due = new StringBuilder();
        for (String event : ("999994 cast a,999994 cast b,999994 cast c,999994 cast d,999994 dark e,999994 off e,999994 lit f,"
                + "999995 cast f,1000000 dark a,1000000 off a,1000000 dark b,1000000 off b,1000000 dark c,1000000 off c,"
                + "1000000 dark d,1000000 off d,1000000 lit e,1000000 cast e,1000000 dark f,1000000 off f").split(",")) {
            due.append(due.length() > 0 ? "," : "").append(event, 0, event.length() - 1).append("abcdefg")
                    .append(event.charAt(event.length() - 1));
        }
        WanderingMoons x = Skies.of(text.toString());
        Check.same("35: a long text", x.writeTable(999994, 1000000), 423);
        Check.same("35: a long text", Skies.written(x, 423), due.toString());
        Calls.due("36: its end", x, "writtenByte 423", INDEX, "writtenByte 0", "57");
    }

    private static void bytes() {
        WanderingMoons x = Skies.of(ONE);
        Calls.due("36: none at first", x, "writtenByte 0", INDEX, "writtenByte -1", INDEX);
        Calls.due("36: the first and the last byte", x, "writeTable 4 5", "18", "writtenByte 0", "52", "writtenByte 9", "44",
                "writtenByte 17", "111", "writtenByte 18", INDEX, "writtenByte -1", INDEX);
        Calls.due("35: a shorter text in place of it", x, "writeTable 4 4", "9", "writtenByte 8", "111", "writtenByte 9", INDEX);
        Calls.due("35: refused, it stays", x, "writeTable 4 3", ARGUMENT, "writtenByte 8", "111", "writtenByte 9", INDEX);
        Calls.due("35: an empty text in place of it", x, "writeTable 6 7", "0", "writtenByte 0", INDEX);
    }
}

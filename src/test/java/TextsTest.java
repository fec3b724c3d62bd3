/** Section 5 of the document: each sentence that names an edge of a text, of its words, numbers, spaces and errors. */
public final class TextsTest {
    private static final int SYNTAX = -2;
    private static final int VALUE = -3;
    private static final int UNKNOWN = -4;
    private static final int TWICE = -5;
    private static final int MISFIT = -6;
    private static final int TOO_MANY = -7;
    private static final String MOON = "planet 10;moon a 100 0 0 8 0;";

    public static void main(String[] args) {
        sixHundred();
        sixHundredWrong();
        parts();
        eachSpace();
        noSpaces();
        otherBytes();
        besideLetters();
        besideDigits();
        words();
        names();
        longNumbers();
        numberEdges();
        sightEdges();
        firstError();
        firstCode();
        unknown();
        twice();
        misfit();
        tooManyMoons();
        tooManySights();
        sightsAlone();
        olderText();
        emptyBuffer();
        Check.end();
    }

    private static String picture(String text) {
        WanderingMoons x = new WanderingMoons();
        int answer = Skies.load(x, text);
        return answer + " " + x.errorPosition() + ": " + Skies.picture(x);
    }

    private static void right(String what, String text, int moons, String picture) {
        Check.same("5: " + what + ", \"" + text + "\"", picture(text), moons + " -1: " + picture);
    }

    /** The mark ^ stands in front of the byte that the error is at. */
    private static void wrong(String what, int code, String marked) {
        int position = marked.indexOf('^');
        String text = marked.substring(0, position) + marked.substring(position + 1);
        Check.same("5: " + what + ", \"" + marked + "\"", picture(text), code + " " + position + ": 10 0 0 0 0 ");
    }

    private static String filled(String text, int length, String tail) {
        return text + " ".repeat(length - text.length() - tail.length()) + tail;
    }

    // ---- 600 bytes

    private static void sixHundred() {
        right("600 bytes, spaces at the end", filled("planet 11;", 600, ""), 0, "11 0 0 0 0 ");
        right("600 bytes, the last one a token", filled("planet 11", 600, ";"), 0, "11 0 0 0 0 ");
        right("600 bytes, spaces at the beginning", filled("", 600, "planet 11;"), 0, "11 0 0 0 0 ");
        right("600 bytes, zeros", "planet " + "0".repeat(590) + "11;", 0, "11 0 0 0 0 ");
        WanderingMoons x = new WanderingMoons();
        Skies.fill(x, " ".repeat(599));
        Calls.due("5: 601 bytes", x, "append 538976288 0 0 0 0", "throws.IllegalStateException", "append 538968064 0 0 0 0",
                "throws.IllegalStateException", "append 0 0 0 0 8192", "600", "append 0 0 0 0 32", "throws.IllegalStateException",
                "append 0 0 0 0 0", "600", "load", "-2", "errorPosition", "600", "append 0 0 0 0 0", "0");
        Skies.fill(x, " ".repeat(580));
        Calls.due("5: 600 bytes by a full call", x, "append 1 1 1 1 1", "585", "read", "-2", "append 0 0 0 0 0", "0");
        Skies.fill(x, " ".repeat(581));
        Check.state("5: 601 bytes by a full call", () -> x.append(-1, -1, -1, -1, -1));
        Check.same("5: still 581", x.append(0, 0, 0, 0, 0), 581);
        Check.same("5: 600 bytes by nearly a full call", x.append(0x20202020, 0x20202020, 0x20202020, 0x20202020, 0x20002020), 600);
        Check.same("5: nothing but spaces", x.read(), 0);
    }

    private static void sixHundredWrong() {
        wrong("600 bytes, an error in the last one", SYNTAX, filled("planet 11;", 600, "").substring(0, 599) + "^;");
        wrong("600 bytes, the end is unexpected", SYNTAX, filled("planet 11", 600, "") + "^");
        wrong("600 bytes, a word at the end", SYNTAX, filled("planet 11;", 600, "moon") + "^");
        wrong("600 bytes, a name at the end", SYNTAX, filled("planet 11;moon", 600, "a") + "^");
        wrong("600 bytes, a number at the end", SYNTAX, filled("planet", 600, "11") + "^");
        wrong("600 bytes, a number out of its range at the end", VALUE, filled("planet", 599, "^1000"));
    }

    // ---- what may lack and what may come again

    private static void parts() {
        right("no light, no moons, no sights", "planet 10;", 0, "10 0 0 0 0 ");
        right("light alone", "planet 10;light 1 2;", 0, "10 1 2 0 0 ");
        right("a radius that lacks is 1", MOON, 1, "10 0 0 1 0 100 0 0 8 0 1;");
        right("a radius of 0", "planet 10;moon a 100 0 0 8 0 wide 0;", 1, "10 0 0 1 0 100 0 0 8 0 0;");
        right("a radius behind one that lacks", MOON + "moon b 90 0 0 8 0 wide 7;moon c 80 0 0 8 0;", 3,
                "10 0 0 3 0 100 0 0 8 0 1;90 0 0 8 0 7;80 0 0 8 0 1;");
        wrong("planet must not lack", SYNTAX, "^light 1 2;");
        wrong("planet must not lack", SYNTAX, "^;");
        wrong("planet only once", SYNTAX, "planet 10;^planet 10;");
        wrong("light only once", SYNTAX, "planet 10;light 1 2;^light 1 2;");
        wrong("light only ahead of moons", SYNTAX, MOON + "^light 1 2;");
        wrong("light has two numbers", SYNTAX, "planet 10;light 1^;");
        wrong("light has two numbers", SYNTAX, "planet 10;light 1 2 ^3;");
        wrong("a direction has no sign", SYNTAX, "planet 10;light ^-1 2;");
        wrong("one sign", SYNTAX, "planet 10;light 1 -^-2;");
        wrong("wide only once", SYNTAX, "planet 10;moon a 100 0 0 8 0 wide 1 ^wide 1;");
        wrong("moons only ahead of sights", SYNTAX, MOON + "seen a dark 5;^moon b 100 0 0 8 0;");
        wrong("each part has its semicolon", SYNTAX, "planet 10 ^light 1 2;");
        wrong("each part has its semicolon", SYNTAX, "planet 10;light 1 2 ^moon");
        wrong("each part has its semicolon", SYNTAX, "planet 10;moon a 100 0 0 8 0 ^moon");
        wrong("each part has its semicolon", SYNTAX, MOON + "seen a dark 5 ^seen");
        wrong("one semicolon", SYNTAX, "planet 10;^;");
        String[] numbers = {"100", "0", "0", "8", "0"};
        StringBuilder text = new StringBuilder("planet 10;moon a");
        for (String number : numbers) {
            wrong("a moon has five numbers", SYNTAX, text + "^;");
            wrong("a moon has five numbers", SYNTAX, text + " ^wide 1;");
            text.append(' ').append(number);
        }
        wrong("a moon has no sixth number", SYNTAX, text + " ^0;");
    }

    // ---- spaces

    private static final String[] TOKENS = {"planet", "10", ";", "light", "5", "-", "6", ";", "moon", "a", "100", "1", "2", "8",
        "3", "wide", "7", ";", "seen", "a", "dark", "5", ";", "seen", "a", "off", "6", ";"};
    private static final String PICTURE = "10 5 -6 1 2 100 1 2 8 3 7;0 0 5;0 3 6;";

    private static boolean isWord(String token) {
        return token.charAt(0) >= 'a';
    }

    private static boolean isNumber(String token) {
        return token.charAt(0) >= '0' && token.charAt(0) <= '9';
    }

    /** Whether two tokens would be one if no space stood between them. */
    private static boolean grow(String one, String other) {
        return isWord(one) && isWord(other) || isNumber(one) && isNumber(other);
    }

    private static String text(int spaced, String spaces) {
        StringBuilder text = new StringBuilder();
        for (int k = 0; k < TOKENS.length; k++) {
            if (k == spaced) {
                text.append(spaces);
            } else if (k > 0 && grow(TOKENS[k - 1], TOKENS[k])) {
                text.append(' ');
            }
            text.append(TOKENS[k]);
        }
        return text.append(spaced == TOKENS.length ? spaces : "").toString();
    }

    private static void eachSpace() {
        for (int k = 0; k <= TOKENS.length; k++) {
            right("spaces in front of token " + k, text(k, "   "), 1, PICTURE);
            right("a space in front of token " + k, text(k, " "), 1, PICTURE);
        }
    }

    private static void noSpaces() {
        right("no spaces but where they are needed", text(-1, ""), 1, PICTURE);
        for (int k = 1; k < TOKENS.length; k++) {
            if (grow(TOKENS[k - 1], TOKENS[k])) {
                Check.same("5: without a space in front of token " + k, picture(text(k, "")).startsWith("-"), true);
            }
        }
        wrong("a word without its space", SYNTAX, "planet 10;^moona 100 0 0 8 0;");
        wrong("a number without its space", SYNTAX, "planet 10;moon a 1000 0 8 8^;");
        wrong("a space inside a word", SYNTAX, "^pla net 10;");
        wrong("a space inside a number", SYNTAX, "planet 1 ^0;");
    }

    /** Each byte that no token begins with, in front of each of some tokens. */
    private static void otherBytes() {
        for (int one = 1; one < 256; one++) {
            char sign = (char) one;
            boolean known = sign >= 'a' && sign <= 'z' || sign >= '0' && sign <= '9' || sign == ' ' || sign == ';' || sign == '-';
            if (!known) {
                wrong("byte " + one + " at the beginning", SYNTAX, "^" + sign + MOON);
                wrong("byte " + one + " for a number", SYNTAX, "planet ^" + sign + "10;");
                wrong("byte " + one + " for a semicolon", SYNTAX, "planet 10^" + sign + ";");
                wrong("byte " + one + " for a name", SYNTAX, "planet 10;moon ^" + sign + " 100 0 0 8 0;");
                wrong("byte " + one + " at the end", SYNTAX, MOON + "^" + sign);
            }
        }
    }

    /** The bytes beside a and z do not belong to a word. */
    private static void besideLetters() {
        right("a and z belong to words", "planet 10;moon az 100 0 0 8 0;moon za 90 0 0 8 0;seen za lit 3;", 2,
                "10 0 0 2 1 100 0 0 8 0 1;90 0 0 8 0 1;1 1 3;");
        for (char beside : new char[] {'`', '{', '@', 'A', 'Z', '[', '_', 0xe1, 0xfa}) {
            wrong("behind a word", SYNTAX, "planet^" + beside + " 10;");
            wrong("in a name", SYNTAX, "planet 10;moon b^" + beside + "c 100 0 0 8 0;");
            wrong("behind a kind", SYNTAX, MOON + "seen a dark^" + beside + " 5;");
        }
    }

    private static void besideDigits() {
        right("0 and 9 belong to numbers", "planet 90;light 109 -909;", 0, "90 109 -909 0 0 ");
        for (char beside : new char[] {'/', ':', '.', ',', '+', 'o', 0xb2}) {
            wrong("behind a number", SYNTAX, "planet 1^" + beside + "0;");
            wrong("for a number", SYNTAX, "planet ^" + beside + "0;");
        }
    }

    // ---- words and names

    private static void words() {
        String[] due = {"planet", "light", "moon", "wide", "seen", "dark"};
        String text = "planet 10;light 5 -6;moon a 100 1 2 8 3 wide 7;seen a dark 5;";
        for (String word : due) {
            int at = text.indexOf(word);
            String behind = text.substring(at + word.length());
            wrong("a longer word", SYNTAX, text.substring(0, at) + "^" + word + "s" + behind);
            wrong("a shorter word", SYNTAX, text.substring(0, at) + "^" + word.substring(0, word.length() - 1) + behind);
            wrong("a capital letter", SYNTAX, text.substring(0, at) + "^" + (char) (word.charAt(0) - 32) + word.substring(1)
                    + behind);
            if (!word.equals("moon") && !word.equals("seen")) {
                wrong("the same word twice", SYNTAX, text.substring(0, at) + word + " ^" + word + behind);
            }
        }
        wrong("a name and another word", SYNTAX, "planet 10;moon moon ^moon 100 0 0 8 0;");
        wrong("a word that is no name here", UNKNOWN, MOON + "seen ^seen a dark 5;");
        for (String kind : new String[] {"darks", "dar", "d", "lits", "li", "casts", "cas", "offs", "of", "o", "seen", "a"}) {
            wrong("a kind", SYNTAX, MOON + "seen a ^" + kind + " 5;");
        }
        right("all kinds", MOON + "seen a off 5;seen a cast 5;seen a lit 5;seen a dark 5;", 1,
                "10 0 0 1 4 100 0 0 8 0 1;0 3 5;0 2 5;0 1 5;0 0 5;");
    }

    private static void names() {
        String[] grammar = {"planet", "light", "moon", "wide", "seen", "dark", "lit", "cast", "off", "abcdefgh"};
        for (String name : grammar) {
            String moon = "moon " + name + " 100 0 0 8 0";
            right("any word is a name", "planet 10;" + moon + " wide 3;seen " + name + " off 5;", 1,
                    "10 0 0 1 1 100 0 0 8 0 3;0 3 5;");
            WanderingMoons x = Skies.of("planet 10;" + moon + ";");
            Check.same("5: the name " + name, Skies.written(x, x.writeTable(1, 4)), "1 off " + name + ",4 dark " + name);
        }
        right("a name of one letter", "planet 10;moon z 100 0 0 8 0;", 1, "10 0 0 1 0 100 0 0 8 0 1;");
        right("two names of 8 letters", "planet 10;moon zzzzzzzy 100 0 0 8 0;moon zzzzzzzz 90 0 0 8 0;seen zzzzzzzz lit 5;", 2,
                "10 0 0 2 1 100 0 0 8 0 1;90 0 0 8 0 1;1 1 5;");
        right("two names that differ in the first letter", "planet 10;moon bzzzzzzz 100 0 0 8 0;moon azzzzzzz 90 0 0 8 0;"
                + "seen azzzzzzz lit 5;", 2, "10 0 0 2 1 100 0 0 8 0 1;90 0 0 8 0 1;1 1 5;");
        right("a name and the same with an a ahead", "planet 10;moon b 100 0 0 8 0;moon ab 90 0 0 8 0;seen ab lit 5;", 2,
                "10 0 0 2 1 100 0 0 8 0 1;90 0 0 8 0 1;1 1 5;");
        wrong("a name of 9 letters", SYNTAX, "planet 10;moon ^abcdefghi 100 0 0 8 0;");
        wrong("a name of many letters", SYNTAX, "planet 10;moon ^" + "a".repeat(300) + " 100 0 0 8 0;");
        wrong("a name of 9 letters, seen", SYNTAX, MOON + "seen ^abcdefghi dark 5;");
        wrong("9 letters of which 8 are a name", SYNTAX, "planet 10;moon abcdefgh 100 0 0 8 0;seen ^abcdefghi dark 5;");
        wrong("no name", SYNTAX, "planet 10;moon ^100 0 0 8 0;");
        wrong("no name, seen", SYNTAX, MOON + "seen ^5;");
        wrong("the end for a name", SYNTAX, "planet 10;moon  ^");
    }

    // ---- numbers

    private static void longNumbers() {
        right("zeros at the beginning", "planet 0000000000000000000000000000000999;light 000 -000999;", 0, "999 0 -999 0 0 ");
        right("zeros of a moon", "planet 010;moon a 0009999 00060 000359 0099999 0000359 wide 00099;", 1,
                "10 0 0 1 0 9999 60 359 99999 359 99;");
        right("zeros of a sight", MOON + "seen a dark 00000000000001000000;", 1, "10 0 0 1 1 100 0 0 8 0 1;0 0 1000000;");
        right("nothing but zeros", "planet 10;light 0000 -0000;moon a 100 000 000 8 000 wide 000;", 1,
                "10 0 0 1 0 100 0 0 8 0 0;");
        // what they would be if only 32 or 64 bits of them counted: 10, 10 and 1
        wrong("a long number", VALUE, "planet ^4294967306;");
        wrong("a long number", VALUE, "planet ^18446744073709551626;");
        wrong("a long number", VALUE, "planet ^" + "1" + "0".repeat(100) + "1;");
        wrong("a long number of a sight", VALUE, MOON + "seen a dark ^4294967297;");
        wrong("a long number of a sight", VALUE, MOON + "seen a dark ^" + "9".repeat(500) + ";");
        wrong("a long number behind zeros", VALUE, "planet ^0001000;");
    }

    /** Each number of a sky at its least and its greatest, and a step farther. */
    private static void numberEdges() {
        String[] ahead = {"planet ", "planet 1;light ", "planet 1;light 0 ", "planet 1;light 0 -", "planet 1;moon a ",
            "planet 1;moon a 9999 ", "planet 1;moon a 9999 0 ", "planet 1;moon a 9999 0 0 ", "planet 1;moon a 9999 0 0 8 ",
            "planet 1;moon a 9999 0 0 8 0 wide ", "planet 1;moon a 9999 0 0 8 0;seen a lit "};
        String[] behind = {";", " 0;", ";", ";", " 0 0 8 0 wide 0;", " 0 8 0;", " 8 0;", " 0;", ";", ";", ";"};
        int[] least = {1, 0, 0, 0, 2, 0, 0, 8, 0, 0, 1};
        int[] greatest = {999, 359, 999, 999, 9999, 60, 359, 99999, 359, 99, 1000000};
        for (int k = 0; k < ahead.length; k++) {
            for (int number : new int[] {least[k], least[k] + 1, greatest[k] - 1, greatest[k]}) {
                String text = ahead[k] + number + behind[k];
                Check.same("5: a number in its range, \"" + text + "\"", picture(text).split(":")[0].endsWith(" -1"), true);
            }
            wrong("a number too large", VALUE, ahead[k] + "^" + (greatest[k] + 1) + behind[k]);
            if (least[k] > 0) {
                wrong("a number too small", VALUE, ahead[k] + "^" + (least[k] - 1) + behind[k]);
                wrong("a number too small", VALUE, ahead[k] + "^0" + behind[k]);
            } else if (k != 2 && k != 3) {
                wrong("a number below 0", SYNTAX, ahead[k] + "^-1" + behind[k]);
            }
        }
        right("the drift below 0", "planet 1;light 0 -1;", 0, "1 0 -1 0 0 ");
        right("the drift behind its sign and a space", "planet 1;light 0 -  999;", 0, "1 0 -999 0 0 ");
        wrong("behind its sign", VALUE, "planet 1;light 0 -^1000;");
        wrong("behind its sign and a space", VALUE, "planet 1;light 0 -  ^1000;");
        wrong("nothing behind its sign", SYNTAX, "planet 1;light 0 -^;");
        wrong("the end behind its sign", SYNTAX, "planet 1;light 0 - ^");
    }

    private static void sightEdges() {
        right("the first and the last time", MOON + "seen a dark 1;seen a dark 1000000;", 1,
                "10 0 0 1 2 100 0 0 8 0 1;0 0 1;0 0 1000000;");
        wrong("time 0", VALUE, MOON + "seen a dark 1;seen a dark ^0;");
        wrong("time 1000001", VALUE, MOON + "seen a dark 1;seen a dark ^1000001;");
    }

    // ---- errors

    private static void firstError() {
        wrong("reading stops at the first error", VALUE, "planet ^0;light 400 0;moon");
        wrong("reading stops at the first error", VALUE, "planet 10;light ^400 1000;;");
        wrong("reading stops at the first error", SYNTAX, "planet 10;light 1 ^;moon a 0;");
        wrong("reading stops at the first error", MISFIT, "planet 10;moon a 11 0 0 8 0^;moon a 100 0 0 8 0;");
        wrong("reading stops at the first error", UNKNOWN, MOON + "seen ^b bark 0;");
        wrong("reading stops at the first error", SYNTAX, MOON + "seen a ^bark 0;");
        wrong("reading stops at the first error", TWICE, MOON + "seen a dark 7;seen a dark ^7 8;");
        wrong("reading stops at the first error", VALUE, "planet 10;moon a 100 ^61 400 7 0;");
    }

    /** Two codes fit the same position: the one that is first in the list. */
    private static void firstCode() {
        wrong("SYNTAX_ERROR ahead of UNKNOWN", SYNTAX, MOON + "seen ^bbbbbbbbb dark 5;");
        wrong("SYNTAX_ERROR ahead of MISFIT", SYNTAX, "planet 10;moon a 11 0 0 8 0 ^wid");
        wrong("SYNTAX_ERROR ahead of MISFIT, at the end", SYNTAX, "planet 10;moon a 11 0 0 8 0 ^");
        wrong("SYNTAX_ERROR ahead of TOO_MANY", SYNTAX, moons(6) + "seen a dark 5;^moon g 100 0 0 8 0;");
        wrong("SYNTAX_ERROR ahead of TOO_MANY", SYNTAX, moons(6) + "^moom");
        wrong("SYNTAX_ERROR ahead of TOO_MANY, at the end", SYNTAX, MOON + sights(1, 30) + "^se");
        wrong("VALUE_ERROR ahead of all behind it", VALUE, MOON + "seen a dark 5;seen a dark ^0;");
    }

    private static void unknown() {
        wrong("no moon has this name", UNKNOWN, MOON + "seen ^aa dark 5;");
        wrong("no moon has this name", UNKNOWN, "planet 10;moon ab 100 0 0 8 0;seen ^a dark 5;");
        wrong("no moons", UNKNOWN, "planet 10;seen ^a dark 5;");
        WanderingMoons x = Skies.of(MOON);
        Check.same("5: the moons of the present sky do not count in load",
                Skies.load(x, "planet 10;moon b 100 0 0 8 0;seen a dark 5;") + " " + x.errorPosition(), "-4 34");
        Check.same("5: in read they do", Skies.read(x, "seen a dark 5;"), 1);
        Skies.load(x, "planet 10;moon b 100 0 0 8 0;");
        Check.same("5: those of the sky before do not", Skies.read(x, "seen a dark 6;") + " " + x.errorPosition(), "-4 5");
        x.undo();
        Check.same("5: but when they are back", Skies.read(x, "seen a dark 6;"), 2);
        Check.same("5: nor those of a text with an error",
                Skies.load(x, "planet 10;moon c 100 0 0 8 0;moon") + " " + Skies.read(x, "seen c dark 6;"), "-2 -4");
    }

    private static void twice() {
        wrong("the name of another moon", TWICE, MOON + "moon b 100 0 0 8 0;moon ^a 100 0 0 8 0;");
        wrong("the name of the moon before", TWICE, MOON + "moon b 100 0 0 8 0;moon ^b 1");
        wrong("a time that was told", TWICE, MOON + "seen a dark 5;seen a lit 5;seen a dark ^5;");
        wrong("a time that was told, with zeros", TWICE, MOON + "seen a dark 5;seen a dark  ^0005;");
        right("another kind, another moon, another time", MOON + "moon b 100 0 0 8 0;seen a dark 5;seen a lit 5;seen b dark 5;"
                + "seen a dark 6;", 2, "10 0 0 2 4 100 0 0 8 0 1;100 0 0 8 0 1;0 0 5;0 1 5;1 0 5;0 0 6;");
        WanderingMoons x = Skies.of(MOON + "seen a dark 5;");
        Check.same("5: names and sights of the present sky do not count in load", Skies.load(x, MOON + "seen a dark 5;"), 1);
        Check.same("5: in read they do", Skies.read(x, "seen a dark 5;") + " " + x.errorPosition(), "-5 12");
        x.forget(0);
        Check.same("5: not when they are dropped", Skies.read(x, "seen a dark 5;"), 1);
        x.undo();
        Check.same("5: nor when they are undone", Skies.read(x, "seen a dark 5;"), 1);
    }

    private static void misfit() {
        wrong("too small for both radii", MISFIT, "planet 10;moon a 11 0 0 8 0^;");
        wrong("too small for both radii", MISFIT, "planet 10;moon a 19 0 0 8 0 wide 9   ^;");
        right("just large enough", "planet 10;moon a 20 0 0 8 0 wide 9;", 1, "10 0 0 1 0 20 0 0 8 0 9;");
        // 27 times 44, divided by 100, is 11.88; 28 times 43 is 12.04
        wrong("too small for its flatness", MISFIT, "planet 10;moon a 27 56 0 8 0^;");
        right("what is behind the point is cut off", "planet 10;moon a 28 57 0 8 0;", 1, "10 0 0 1 0 28 57 0 8 0 1;");
        wrong("as large as both radii", MISFIT, "planet 10;moon a 28 58 0 8 0^;");
        wrong("the largest planet", MISFIT, "planet 999;moon a 1098 0 0 8 0 wide 99^;");
        right("the largest planet", "planet 999;moon a 1099 0 0 8 0 wide 99;", 1, "999 0 0 1 0 1099 0 0 8 0 99;");
        wrong("a later moon", MISFIT, MOON + "moon b 11 0 0 8 0^;");
        WanderingMoons x = Skies.of("planet 1;");
        Check.same("5: the planet of the text counts", Skies.load(x, "planet 20;moon a 21 0 0 8 0;") + " " + x.errorPosition(),
                "-6 27");
    }

    private static String moons(int many) {
        StringBuilder text = new StringBuilder("planet 10;");
        for (int k = 0; k < many; k++) {
            text.append("moon ").append((char) ('a' + k)).append(" 100 0 0 8 0;");
        }
        return text.toString();
    }

    private static void tooManyMoons() {
        Check.same("5: 6 moons", picture(moons(6)).startsWith("6 -1: 10 0 0 6 0 "), true);
        wrong("a 7th moon", TOO_MANY, moons(6) + "^moon g 100 0 0 8 0;");
        wrong("a 7th moon, before anything behind it is read", TOO_MANY, moons(6) + "  ^moon");
        wrong("a 7th moon, before anything behind it is read", TOO_MANY, moons(6) + "^moon;");
        wrong("a 7th moon, before its name is read", TOO_MANY, moons(6) + "^moon a 100 0 0 8 0;");
        wrong("a 7th moon, before its name is read", TOO_MANY, moons(6) + "^moon abcdefghi");
        WanderingMoons x = Skies.of(moons(6));
        Check.same("5: the moons of the present sky do not count", Skies.load(x, moons(6)), 6);
    }

    private static String sights(int from, int to) {
        StringBuilder text = new StringBuilder();
        for (int time = from; time <= to; time++) {
            text.append("seen a lit ").append(time).append(";");
        }
        return text.toString();
    }

    private static void tooManySights() {
        Check.same("5: 30 sights", picture(MOON + sights(1, 30) + "  ").startsWith("1 -1: 10 0 0 1 30 "), true);
        wrong("a 31st sight", TOO_MANY, MOON + sights(1, 30) + "^seen a dark 5;");
        wrong("a 31st sight, before anything behind it is read", TOO_MANY, MOON + sights(1, 30) + "  ^seen");
        wrong("a 31st sight, before its name is read", TOO_MANY, MOON + sights(1, 30) + "^seen b;");
        wrong("a 31st sight that is there already", TOO_MANY, MOON + sights(1, 30) + "^seen a lit 5;");
        WanderingMoons x = Skies.of(MOON + sights(1, 30));
        Check.same("5: the sights of the present sky do not count in load", Skies.load(x, MOON + sights(1, 30)), 1);
        Check.same("5: in read they do", Skies.read(x, "seen a dark 1;") + " " + x.errorPosition(), "-7 0");
        x.forget(7);
        Check.same("5: when one is dropped there is room", Skies.read(x, "seen a dark 1;"), 30);
        x.undo();
        Check.same("5: for one", Skies.read(x, "seen a dark 1;seen a dark 2;") + " " + x.errorPosition(), "-7 14");
        Check.same("5: none comes then", x.count(4), 29);
    }

    private static void alone(String what, WanderingMoons x, int code, String marked) {
        int position = marked.indexOf('^');
        int sights = x.count(4);
        Check.same("5: " + what + ", \"" + marked + "\"",
                Skies.read(x, marked.substring(0, position) + marked.substring(position + 1)) + " " + x.errorPosition(),
                code + " " + position);
        Check.same("5: none comes, \"" + marked + "\"", x.count(4), sights);
    }

    private static void sightsAlone() {
        WanderingMoons x = Skies.of(MOON);
        Check.same("5: an empty text has none", x.read() + " " + x.errorPosition(), "0 -1");
        Check.same("5: nor has one of spaces", Skies.read(x, "  ") + " " + x.errorPosition(), "0 -1");
        Check.same("5: spaces may stand in front of every token", Skies.read(x, "  seen  a  dark  5  ;  "), 1);
        Check.same("5: or lack", Skies.read(x, "seen a dark6;seen a lit5;"), 3);
        alone("no planet", x, SYNTAX, "^planet 10;");
        alone("no light", x, SYNTAX, "^light 1 2;");
        alone("no moon", x, SYNTAX, "^moon b 100 0 0 8 0;");
        alone("an error in a later one", x, SYNTAX, "seen a lit 1;seen a lit 2;seen a lit 3^");
        alone("a longer name", x, SYNTAX, "seen ^abcdefghi");
        alone("no time", x, SYNTAX, "seen a lit ^;");
        alone("time 0", x, VALUE, "seen a lit ^0;");
        alone("time 1000001", x, VALUE, "seen a lit ^1000001;");
        alone("a name that no moon has", x, UNKNOWN, "seen ^b lit 1;");
        alone("a time that was told", x, TWICE, "seen a dark ^5;");
        alone("a time that was told in this text", x, TWICE, "seen a off 9;seen a off ^9;");
        Check.same("5: what is there", Skies.picture(x), "10 0 0 1 3 100 0 0 8 0 1;0 0 5;0 0 6;0 1 5;");
        Check.same("5: at the last time", Skies.read(x, "seen a lit 1000000;seen a lit 1;"), 5);
    }

    /** Of a longer text that was read before nothing is left, whether it had an error or not. */
    private static void olderText() {
        WanderingMoons x = new WanderingMoons();
        Skies.load(x, filled("planet 10;moon", 400, ""));
        Check.same("5: the length of the text, not of an older one", Skies.load(x, "planet 10") + " " + x.errorPosition(), "-2 9");
        Skies.load(x, filled("planet", 300, ""));
        Check.same("5: spaces end with their text", Skies.load(x, "planet 10") + " " + x.errorPosition(), "-2 9");
        Skies.load(x, "planet 10;moon abcdefgh 100 0 0 8 0;");
        Check.same("5: a word ends with its text", Skies.load(x, "planet 10;moon a") + " " + x.errorPosition(), "-2 16");
        Skies.load(x, "planet 10999999999999");
        Check.same("5: a number ends with its text", Skies.load(x, "planet 10") + " " + x.errorPosition(), "-2 9");
        Skies.load(x, "planet 10;moon a 100 0 0 8 0;seen a dark 5;");
        Check.same("5: a sky ends with its text", Skies.load(x, "planet 10;"), 0);
        Skies.load(x, "planet 10;moon a 100 0 0 8 0;");
        Skies.read(x, "seen a dark 5;seen a dark 6;");
        Check.same("5: sights end with their text", Skies.read(x, "seen a dark 7;"), 3);
    }

    private static void emptyBuffer() {
        WanderingMoons x = new WanderingMoons();
        Check.same("3: an empty text is no sky", x.load() + " " + x.errorPosition(), "-2 0");
        Check.same("4: but no sights", x.read() + " " + x.errorPosition(), "0 -1");
        Skies.load(x, MOON);
        Check.same("3: the buffer is empty then", x.load() + " " + x.errorPosition(), "-2 0");
        Check.same("3: the present one stays", Skies.picture(x), "10 0 0 1 0 100 0 0 8 0 1;");
        Skies.fill(x, "seen a dark 5;");
        Check.same("3: sights are no sky", x.load() + " " + x.errorPosition(), "-2 0");
        Check.same("3: the buffer is empty after an error too", x.read() + " " + x.count(4), "0 0");
        Skies.fill(x, "seen a dark 5;");
        x.read();
        Check.same("4: the buffer is empty then", x.append(0, 0, 0, 0, 0), 0);
        Skies.fill(x, "seen");
        x.read();
        Check.same("4: the buffer is empty after an error too", x.append(0, 0, 0, 0, 0), 0);
    }
}

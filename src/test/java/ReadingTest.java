/** Promises 3 to 5 with section 5: each error of a text, where it is and which one is told. */
public final class ReadingTest {
    private static final int SYNTAX = -2;
    private static final int VALUE = -3;
    private static final int UNKNOWN = -4;
    private static final int TWICE = -5;
    private static final int MISFIT = -6;
    private static final int TOO_MANY = -7;
    private static final String MOON = "planet 10;moon a 100 0 0 8 0;";

    public static void main(String[] args) {
        grammar();
        spaces();
        order();
        values();
        names();
        twice();
        misfits();
        tooMany();
        manySights();
        readAlone();
        Check.end();
    }

    /** The mark ^ stands in front of the byte that the error is at. */
    private static void wrong(int code, String marked) {
        int position = marked.indexOf('^');
        String text = marked.substring(0, position) + marked.substring(position + 1);
        WanderingMoons x = new WanderingMoons();
        Check.same("3: load of \"" + marked + "\"", Skies.load(x, text), code);
        Check.same("5: position in \"" + marked + "\"", x.errorPosition(), position);
        Check.same("3: nothing comes of \"" + marked + "\"", Skies.picture(x), "10 0 0 0 0 ");
    }

    private static void right(String text, String picture) {
        WanderingMoons x = new WanderingMoons();
        Skies.load(x, text);
        Check.same("5: no error in \"" + text + "\"", x.errorPosition(), -1);
        Check.same("3: what comes of \"" + text + "\"", Skies.picture(x), picture);
    }

    private static void grammar() {
        wrong(SYNTAX, "^");
        wrong(SYNTAX, "   ^");
        wrong(SYNTAX, "^planets 10;");
        wrong(SYNTAX, "^clanet 10;");
        wrong(SYNTAX, "^planeu 10;");
        wrong(SYNTAX, "planet 10;^night 1 2;");
        wrong(SYNTAX, "planet 10;moon a 100 0 0 8 0 ^tide 2;");
        wrong(SYNTAX, MOON + "^noon b 100 0 0 8 0;");
        wrong(SYNTAX, MOON + "^teen a dark 5;");
        wrong(SYNTAX, MOON + "seen a ^bark 5;");
        wrong(SYNTAX, MOON + "seen a ^it 5;");
        wrong(SYNTAX, "^plane 10;");
        wrong(SYNTAX, "^Planet 10;");
        wrong(SYNTAX, "^10;");
        wrong(SYNTAX, "^moon a 100 0 0 8 0;");
        wrong(SYNTAX, "planet^");
        wrong(SYNTAX, "planet ^;");
        wrong(SYNTAX, "planet ^-1;");
        wrong(SYNTAX, "planet ^ten;");
        wrong(SYNTAX, "planet 10^");
        wrong(SYNTAX, "planet 10  ^");
        wrong(SYNTAX, "planet 10 ^5;");
        wrong(SYNTAX, "planet 10^,");
        wrong(SYNTAX, "planet 10;^;");
        wrong(SYNTAX, "planet 10; ^planet 10;");
        wrong(SYNTAX, "planet 10;^" + (char) 255);
        wrong(SYNTAX, "planet^\t10;");
        wrong(SYNTAX, "planet 10;^\n");
        wrong(SYNTAX, "planet 10;light^;");
        wrong(SYNTAX, "planet 10;light ^-1 0;");
        wrong(SYNTAX, "planet 10;light 1 ^;");
        wrong(SYNTAX, "planet 10;light 1 -^;");
        wrong(SYNTAX, "planet 10;light 1 -^-1;");
        wrong(SYNTAX, "planet 10;light 1 ^+1;");
        wrong(SYNTAX, "planet 10;light 1 1 ^1;");
        wrong(SYNTAX, "planet 10;light 1 1;^light 1 1;");
        wrong(SYNTAX, "planet 10;moon ^100 0 0 8 0;");
        wrong(SYNTAX, "planet 10;moon a 100 0 0 8^;");
        wrong(SYNTAX, "planet 10;moon a 100 0 0 8 0 ^0;");
        wrong(SYNTAX, "planet 10;moon a 100 0 0 8 0 ^wid 3;");
        wrong(SYNTAX, "planet 10;moon a 100 0 0 8 0 wide^;");
        wrong(SYNTAX, "planet 10;moon a 100 0 0 8 0 wide ^-1;");
        wrong(SYNTAX, "planet 10;moon a 100 0 0 8 0 wide 1 ^wide 1;");
        wrong(SYNTAX, "planet 10;moon a 100 0 ^-1 8 0;");
        wrong(SYNTAX, MOON + "seen ^7 dark 5;");
        wrong(SYNTAX, MOON + "seen a ^dar 5;");
        wrong(SYNTAX, MOON + "seen a ^darker 5;");
        wrong(SYNTAX, MOON + "seen a ^a 5;");
        wrong(SYNTAX, MOON + "seen a ^5;");
        wrong(SYNTAX, MOON + "seen a dark ^;");
        wrong(SYNTAX, MOON + "seen a dark 5^");
        wrong(SYNTAX, MOON + "seen a dark 5;^a");
        wrong(SYNTAX, MOON + "^see a dark 5;");
        wrong(SYNTAX, MOON + "^moons b 100 0 0 8 0;");
    }

    private static void spaces() {
        right("  planet  10 ; light 5 - 6 ; moon a 100 0 0 8 0 wide 7 ; seen a dark 5 ;  ",
                "10 5 -6 1 1 100 0 0 8 0 7;0 0 5;");
        right("planet10;light5-6;moon a100 0 0 8 0wide7;seen a dark5;", "10 5 -6 1 1 100 0 0 8 0 7;0 0 5;");
        right("planet 10;light 0 -0;", "10 0 0 0 0 ");
        right("planet 000000000000000010;light 0007 -0009;", "10 7 -9 0 0 ");
        right("planet 10;moon a 0100 00 000 08 0;", "10 0 0 1 0 100 0 0 8 0 1;");
        wrong(SYNTAX, "planet 10;moon a 1000 0 0 8^;");
        wrong(SYNTAX, "planet 10;^mo on a 100 0 0 8 0;");
    }

    private static void order() {
        wrong(SYNTAX, MOON + "^light 1 1;");
        wrong(SYNTAX, MOON + "seen a dark 5;^moon b 100 0 0 8 0;");
        wrong(SYNTAX, MOON + "seen a dark 5;^light 1 1;");
        right("planet 10;light 1 2;", "10 1 2 0 0 ");
        right(MOON + "seen a dark 5;seen a lit 5;seen a cast 5;seen a off 5;seen a off 6;",
                "10 0 0 1 5 100 0 0 8 0 1;0 0 5;0 1 5;0 2 5;0 3 5;0 3 6;");
    }

    private static void values() {
        wrong(VALUE, "planet ^0;");
        wrong(VALUE, "planet ^000#");
        wrong(VALUE, "planet ^1000;");
        wrong(VALUE, "planet ^99999999999999999999;");
        wrong(VALUE, "planet ^4294967306;");
        wrong(VALUE, "planet ^18446744073709551626;");
        right("planet 1;", "1 0 0 0 0 ");
        right("planet 999;", "999 0 0 0 0 ");
        wrong(VALUE, "planet 10;light ^360 0;");
        wrong(VALUE, "planet 10;light 0 ^1000;");
        wrong(VALUE, "planet 10;light 0 -^1000;");
        wrong(VALUE, "planet 10;light 0 - ^1000;");
        right("planet 10;light 359 999;", "10 359 999 0 0 ");
        right("planet 10;light 0 -999;", "10 0 -999 0 0 ");
        wrong(VALUE, "planet 10;moon a ^1 0 0 8 0;");
        wrong(VALUE, "planet 10;moon a ^10000 0 0 8 0;");
        wrong(VALUE, "planet 10;moon a 100 ^61 0 8 0;");
        wrong(VALUE, "planet 10;moon a 100 0 ^360 8 0;");
        wrong(VALUE, "planet 10;moon a 100 0 0 ^7 0;");
        wrong(VALUE, "planet 10;moon a 100 0 0 ^100000 0;");
        wrong(VALUE, "planet 10;moon a 100 0 0 8 ^360;");
        wrong(VALUE, "planet 10;moon a 999 0 0 8 0 wide ^100;");
        right("planet 1;moon a 2 0 0 8 0 wide 0;", "1 0 0 1 0 2 0 0 8 0 0;");
        right("planet 1;moon a 9999 60 359 99999 359 wide 99;", "1 0 0 1 0 9999 60 359 99999 359 99;");
        wrong(VALUE, MOON + "seen a dark ^0;");
        wrong(VALUE, MOON + "seen a dark ^1000001;");
        right(MOON + "seen a dark 1;seen a dark 1000000;", "10 0 0 1 2 100 0 0 8 0 1;0 0 1;0 0 1000000;");
    }

    private static void names() {
        wrong(SYNTAX, "planet 10;moon ^abcdefghi 100 0 0 8 0;");
        wrong(SYNTAX, MOON + "seen ^abcdefghi dark 5;");
        wrong(UNKNOWN, MOON + "seen ^b dark 5;");
        wrong(UNKNOWN, MOON + "seen ^aa");
        wrong(UNKNOWN, MOON + "seen ^dark 5;");
        wrong(UNKNOWN, "planet 10;seen ^a dark 5;");
        right("planet 10;moon moon 100 0 0 8 0;moon seen 90 0 0 8 0;moon dark 80 0 0 8 0;moon wide 70 0 0 8 0 wide 2;"
                + "seen dark dark 5;seen seen lit 6;seen wide off 7;",
                "10 0 0 4 3 100 0 0 8 0 1;90 0 0 8 0 1;80 0 0 8 0 1;70 0 0 8 0 2;2 0 5;1 1 6;3 3 7;");
        right("planet 10;moon az 100 0 0 8 0;moon za 90 0 0 8 0;moon zzzzzzzz 80 0 0 8 0;seen zzzzzzzz dark 5;",
                "10 0 0 3 1 100 0 0 8 0 1;90 0 0 8 0 1;80 0 0 8 0 1;2 0 5;");
        right("planet 10;moon abcdefgh 100 0 0 8 0;moon abcdefg 90 0 0 8 0;seen abcdefg lit 5;",
                "10 0 0 2 1 100 0 0 8 0 1;90 0 0 8 0 1;1 1 5;");
    }

    private static void twice() {
        wrong(TWICE, MOON + "moon ^a 100 0 0 8 0;");
        wrong(TWICE, MOON + "moon b 100 0 0 8 0;moon ^a#");
        wrong(TWICE, MOON + "seen a dark 5;seen a dark ^5;");
        wrong(TWICE, MOON + "seen a dark 5;seen a dark ^005#");
        right(MOON + "moon aa 100 0 0 8 0;", "10 0 0 2 0 100 0 0 8 0 1;100 0 0 8 0 1;");
        right(MOON + "moon b 100 0 0 8 0;seen a dark 5;seen b dark 5;seen a lit 5;seen a dark 50;",
                "10 0 0 2 4 100 0 0 8 0 1;100 0 0 8 0 1;0 0 5;1 0 5;0 1 5;0 0 50;");
    }

    private static void misfits() {
        wrong(MISFIT, "planet 10;moon a 11 0 0 8 0^;");
        right("planet 10;moon a 12 0 0 8 0;", "10 0 0 1 0 12 0 0 8 0 1;");
        wrong(MISFIT, "planet 10;moon a 12 0 0 8 0 wide 2 ^;");
        right("planet 10;moon a 11 0 0 8 0 wide 0;", "10 0 0 1 0 11 0 0 8 0 0;");
        // 23 times 50, divided by 100, is 11
        wrong(MISFIT, "planet 10;moon a 23 50 0 8 0^;");
        right("planet 10;moon a 24 50 0 8 0;", "10 0 0 1 0 24 50 0 8 0 1;");
        wrong(SYNTAX, "planet 10;moon a 11 0 0 8 0^,");
        wrong(SYNTAX, "planet 10;moon a 11 0 0 8 0^");
        wrong(VALUE, "planet 10;moon a 11 0 0 8 0 wide ^100;");
        right("planet 9;moon a 11 0 0 8 0;", "9 0 0 1 0 11 0 0 8 0 1;");
    }

    private static String moons(int many) {
        StringBuilder text = new StringBuilder("planet 10;");
        for (int k = 0; k < many; k++) {
            text.append("moon ").append((char) ('a' + k)).append(" 100 0 0 8 0;");
        }
        return text.toString();
    }

    private static void tooMany() {
        Check.same("3: 6 moons", Skies.load(new WanderingMoons(), moons(6)), 6);
        wrong(TOO_MANY, moons(6) + "^moon g 100 0 0 8 0;");
        wrong(TOO_MANY, moons(6) + " ^moon");
        wrong(TOO_MANY, moons(6) + "^moon a 1");
        wrong(SYNTAX, moons(6) + "^moons");
        wrong(SYNTAX, moons(6) + "seen a dark 5;^moon");
        Check.same("3: sights behind 6 moons", Skies.load(new WanderingMoons(), moons(6) + "seen f dark 5;"), 6);
    }

    private static String sights(int from, int to) {
        StringBuilder text = new StringBuilder();
        for (int time = from; time <= to; time++) {
            text.append("seen a lit ").append(time).append(";");
        }
        return text.toString();
    }

    private static void manySights() {
        WanderingMoons x = Skies.of(MOON + sights(1, 30));
        Check.same("3: 30 sights", x.count(4), 30);
        wrong(TOO_MANY, MOON + sights(1, 30) + "^seen a dark 5;");
        wrong(TOO_MANY, MOON + sights(1, 30) + "^seen");
        wrong(SYNTAX, MOON + sights(1, 30) + "^see");
        wrong(SYNTAX, MOON + sights(1, 30) + "^;");
    }

    private static void alone(WanderingMoons x, int code, String marked) {
        int position = marked.indexOf('^');
        String text = marked.substring(0, position) + marked.substring(position + 1);
        String before = Skies.picture(x);
        Check.same("4: read of \"" + marked + "\"", Skies.read(x, text), code);
        Check.same("5: position in \"" + marked + "\"", x.errorPosition(), position);
        Check.same("4: nothing comes of \"" + marked + "\"", Skies.picture(x), before);
    }

    private static void readAlone() {
        WanderingMoons x = Skies.of(MOON + "seen a dark 5;" + sights(1, 3));
        alone(x, SYNTAX, "^planet 10;");
        alone(x, SYNTAX, "^moon b 100 0 0 8 0;");
        alone(x, SYNTAX, "seen a lit 9;^;");
        alone(x, UNKNOWN, "seen ^b lit 9;");
        alone(x, VALUE, "seen a lit ^0;");
        alone(x, TWICE, "seen a dark ^5;");
        alone(x, TWICE, "seen a lit 9;seen a lit ^9;");
        fullAlone();
    }

    private static void fullAlone() {
        WanderingMoons x = Skies.of(MOON + "seen a dark 5;" + sights(1, 3));
        alone(x, TOO_MANY, sights(4, 29) + "^seen a");
        Check.same("4: up to 30", Skies.read(x, sights(4, 29) + "  "), 30);
        alone(x, TOO_MANY, " ^seen");
        Check.same("4: nothing is not too much", x.read(), 30);
    }
}

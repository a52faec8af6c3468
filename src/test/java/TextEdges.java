import java.util.ArrayList;
import java.util.List;

/** Edges of a text: its bytes, tokens, lines and laws. */
final class TextEdges extends Edges {
    /** Every kind of line, and every place in which a token may stand in one; tokens are parted by one blank. */
    private static final String ALL_LINES = "land 4 3 ; high 0 0 3 ; tree 1 0 2 5 ; villa 2 0 50 ; inn 3 0 0 ; blind 0 1 7 ; "
        + "fog 3 1 ; tax not ( miles + 2 ) * 3 - 1 / far < 4 and 5 = high or kind ;";

    TextEdges(Check check, Document document) {
        super(check, document);
    }

    @Override
    void all() {
        under("Terms");
        of("A TEXT of at most 700 bytes tells it.", this::sevenHundredBytes);
        of("TOKENS: words (a .. z, the longest row)", this::words);
        of("NUMBERS (1 to 4 digits)", this::digits);
        of("signs ; ( ) + - * / < =", this::everyByte);
        of("blanks (32, 10) between them count for nothing.", this::blanks);
        of("In quotes is what stands there, [ ] perhaps, * any number of times, | one of some. "
            + "DUCHY: ['land' W H ';'] LINE*.", this::duchies);
        of("LINE: ('high' X Y NUMBER | 'tree' X Y NUMBER TOP | ('villa' | 'inn' | 'blind') X Y PURSE | "
            + "'fog' NUMBER NUMBER* | 'tax' EXPR) ';', all in capitals but EXPR being NUMBERS.", this::lines);
        of("EXPR: AND ('or' AND)*. AND: NOT ('and' NOT)*. NOT: 'not' NOT | SUM [('<' | '=') SUM]. "
            + "SUM: PRODUCT (('+' | '-') PRODUCT)*. PRODUCT: PART (('*' | '/') PART)*. "
            + "PART: NUMBER | VALUE | '(' EXPR ')'.", this::expressions);
        of("From the left;", this::fromTheLeft);
        of("ints that wrap,", this::intsThatWrap);
        of("/ cut down to 0, by 0 gives 0;", this::division);
        of("tests, not, and, or are 1 or 0 (what isn't 0 holds).", this::oneOrZero);
        of("VALUES of a HOUSE: 'miles' (in all directions, together), 'far' (the most in one)", this::milesAndFar);
        of("'high' (HEIGHT of its CELL), 'kind', 'year'", this::highKindYear);
        of("'houses' (how many others are SEEN from it)", this::housesSeen);
        of("'floor'.", this::floors);
    }

    // ---- bytes and tokens

    private void sevenHundredBytes() {
        String full = " ".repeat(694) + "fog 3;";
        Run x = land(full);
        x.is(3, "count", 7);
        x.is(0, "count", 11);
        x.put(full);
        x.is(-1, "feed", 0, 0, 0, 0, 0);
        x.illegal("duchy", 701);
        x.is(1, "duchy", 699);
        x.is(699, "fault");
        check.fault(" ".repeat(699) + "#", 1, 699);
        check.fault(" ".repeat(700), 0, -1);
        check.fault("", 0, -1);
    }

    private void words() {
        // The bytes beside 'a' and 'z' are of no word.
        check.at(1, "tax @`;");
        check.at(3, "tax @a;");
        check.at(3, "tax @z;");
        check.at(1, "tax @{;");
        check.at(1, "tax @Miles;");
        check.at(1, "tax miles@`;");
        check.at(1, "tax miles@{;");
        check.at(1, "@taxmiles;");
        check.at(3, "tax @milesfar;");
        check.at(3, "tax @mile;");
        check.at(3, "tax @miless;");
        check.at(1, "tax miles@7;");
        check.at(1, "tax miles @far;");
        check.at(3, "tax @" + "a".repeat(690) + ";");
        check.fine("tax1;fog1;high1 2 3;");
    }

    private void digits() {
        check.fine("tax 0;");
        check.fine("tax 9999;");
        check.fine("tax 0000;");
        check.fine("high 0000 0001 0009;");
        check.at(2, "tax @00000;");
        check.at(2, "tax @10000;");
        check.at(2, "high 0 0 @00001;");
        check.at(2, "tax @" + "1".repeat(690) + ";");
        check.at(1, "tax 12 @34;");
        // The bytes beside '0' and '9': a sign, and none.
        check.at(1, "tax @/;");
        check.at(1, "tax @:;");
        check.fine("tax 9/0;");
        check.at(1, "tax 9@:0;");
        law(999, "9999");
        law(7, "0007");
    }

    /** Each of the 256 bytes behind a number in a law. */
    private void everyByte() {
        for (int b = 0; b < 256; b++) {
            String text = "tax 1" + (char) b + ";";
            if (b == ' ' || b == '\n' || b >= '0' && b <= '9') {
                check.fine(text);
            } else if (b == ';' || b == '+' || b == '-' || b == '*' || b == '/' || b == '<' || b == '=') {
                check.fault(text, 1, 6);
            } else {
                check.fault(text, 1, 5);
            }
        }
        check.fine("tax (1+2-3*4/5<6)=7;");
    }

    private void blanks() {
        check.fine(ALL_LINES);
        check.fine(ALL_LINES.replace(" ", "\n"));
        check.fine("\n " + ALL_LINES.replace(" ", " \n\n ") + " \n");
        check.fine("land4 3;high0 0 3;tax(miles+2)*3-1/far<4and 5=high or kind;");
        for (int b : new int[] {0, 9, 11, 12, 13, 31, 33, 127, 128, 160, 255}) {
            check.fault("fog" + (char) b + "1;", 1, 3);
        }
        // A blank within them makes two of one.
        check.at(1, "@ta x 1;");
        check.at(3, "tax @mil es;");
        check.at(1, "high 0 0 1 @2;");
        law(12, " \n( \n3 \n) \n* \n4 \n");
    }

    // ---- lines

    private void duchies() {
        check.fine("");
        check.fine(" ");
        check.fine("land 1 1;");
        check.fine("fog 1;");
        check.fine("land 1 1;fog 1;");
        check.at(1, "@;");
        check.at(1, "land 1 1;@;");
        check.at(1, "fog 1;@;");
        check.at(1, "fog 1;@land 1 1;");
        check.at(1, "@1;");
        check.at(1, "@(;");
        StringBuilder lines = new StringBuilder();
        for (int i = 0; i < 58; i++) {
            lines.append("high ").append(i % 8).append(' ').append(i / 8).append(" 9;");
        }
        check.same("bytes of 58 lines", 638, lines.length());
        Run x = land(lines.toString());
        x.is(9, "cell", 57, 0);
        x.is(0, "cell", 58, 0);
    }

    private void lines() {
        line(0, "land", "3", "3");
        line(0, "high", "1", "2", "3");
        line(0, "tree", "1", "2", "3", "4");
        line(0, "villa", "1", "2", "3");
        line(0, "inn", "1", "2", "3");
        line(0, "blind", "1", "2", "3");
        // Behind the first fog there may be more of them.
        line(1, "fog", "1");
        check.fine("fog 1 2;");
        for (String word : new String[] {"heigh", "trees", "house", "fogs", "taxes", "vill", "x"}) {
            check.at(1, "@" + word + " 1 1 1 1;");
        }
    }

    /** A line with a token less, a token more, and with what is no number in place of each number. */
    private void line(int more, String... tokens) {
        String whole = String.join(" ", tokens);
        check.fine(whole + ";");
        check.at(1, whole + "@");
        check.at(1, whole + " @x;");
        check.at(1, whole + " @(;");
        if (more == 0) {
            check.at(1, whole + " @1;");
            check.at(1, whole + " @12345;");
        }
        for (int i = 1; i < tokens.length; i++) {
            String begun = String.join(" ", List.of(tokens).subList(0, i));
            check.at(1, begun + "@;");
            check.at(1, begun + " @x;");
            check.at(1, begun + " @-1;");
            check.at(1, begun + " @miles;");
            check.at(1, begun + " @#;");
        }
    }

    // ---- laws

    private void expressions() {
        for (String fine : new String[] {"1", "miles", "(1)", "not 1", "not not 1", "1 or 2", "1 or 2 or 3", "1 and 2",
            "1 and 2 and 3", "1 < 2", "1 = 2", "not 1 < 2", "1 < 2 and 3 = 4", "1 < 2 or 3 = 4", "1 + 2 - 3 + 4",
            "1 * 2 / 3 * 4", "1 + 2 < 3 - 4", "1 * 2 = 3 / 4", "(1 < 2) = (3 < 4)", "1 + (not 2)", "1 < (2 or 3)",
            "1 and not 2", "1 or not 2", "(1 or 2) and (3 or 4)", "miles*far"}) {
            check.fine("tax " + fine + ";");
            check.fine("tax (" + fine + ");");
            check.at(1, "tax " + fine + "@");
            check.at(1, "tax " + fine + " @);");
            check.at(1, "tax (" + fine + "@;");
            check.at(1, "tax " + fine + " @2;");
            check.at(1, "tax " + fine + " @(2);");
            check.at(1, "tax " + fine + " @miles;");
            check.at(1, "tax " + fine + " @not 2;");
        }
        for (String operator : new String[] {"or", "and", "<", "=", "+", "-", "*", "/"}) {
            check.fine("tax 1 " + operator + " 2;");
            check.at(1, "tax 1 " + operator + "@;");
            check.at(1, "tax 1 " + operator + " @);");
            check.at(1, "tax 1 " + operator + " @*2;");
            check.at(Character.isLetter(operator.charAt(0)) ? 3 : 1, "tax @" + operator + " 1;");
        }
        check.at(1, "tax@;");
        check.at(1, "tax (@);");
        check.at(1, "tax not@;");
        // A test has two sides and no third.
        for (String first : new String[] {"<", "="}) {
            for (String second : new String[] {"<", "="}) {
                check.at(1, "tax 1 " + first + " 2 @" + second + " 3;");
                check.at(1, "tax 1 " + first + " 2 + 3 * 4 @" + second + " 3;");
                check.at(1, "tax not 1 " + first + " (2) @" + second + " 3;");
                check.fine("tax (1 " + first + " 2) " + second + " 3;");
                check.fine("tax 1 " + first + " (2 " + second + " 3);");
                check.fine("tax 1 " + first + " 2 and 3 " + second + " 4;");
            }
        }
    }

    private void fromTheLeft() {
        law(5, "10-3-2");
        law(9, "10-3+2");
        law(10, "100/5/2");
        law(40, "100/5*2");
        law(6, "7/2*2");
        law(7, "5*3/2");
        law(14, "2+3*4");
        law(20, "(2+3)*4");
        law(1, "1 or 0 and 0");
        law(0, "(1 or 0) and 0");
        law(0, "not 1 or 0");
        law(1, "1<1+1");
        law(1, "not 1=2");
        // Each law by itself: nothing of one is left for the next.
        Run two = land("villa 0 0 0;tax not 1;tax 5;tax (not 1);tax 6;");
        int[] tax = {0, 5, 0, 6};
        for (int law = 0; law < 4; law++) {
            two.is(tax[law], "compare", law, 0);
        }
    }

    private void intsThatWrap() {
        // 4096 * 4096 * 128 is 2 to the 31st, the least int.
        law(0, "4096*4096*128");
        law(999, "4096*4096*128-1");
        law(0, "4096*4096*128-1+1");
        law(0, "4096*4096*256");
        law(7, "4096*4096*256+7");
        law(0, "4096*4096*128/(0-1)");
        law(999, "4096*4096*128/(0-1)-1");
        law(1, "4096*4096*128<0");
        law(1, "0<4096*4096*128-1");
        law(1, "(4096*4096*128-1)*2=0-2");
    }

    private void division() {
        law(3, "7/2");
        law(7, "10+(0-7)/2");
        law(7, "10+7/(0-2)");
        law(13, "10+(0-7)/(0-2)");
        law(10, "10+(0-1)/2");
        law(0, "1/2");
        law(1, "2/2");
        law(0, "5/0");
        law(0, "0/0");
        law(9, "9+5/0");
        law(9, "9+(0-5)/0");
        law(0, "5/(1-1)*7");
        law(0, "5/miles*0/0");
    }

    private void oneOrZero() {
        for (String one : new String[] {"1<2", "2=2", "not 0", "not not 5", "not not (0-1)", "5 and 6", "0-1 and 6", "5 or 6",
            "5 or 0", "0 or 5", "0 or 0-1"}) {
            law(17, "10+(" + one + ")*7");
        }
        for (String zero : new String[] {"2<2", "3<2", "2=3", "3=2", "not 1", "not 5", "not (0-1)", "5 and 0", "0 and 5",
            "0 and 0", "0 or 0"}) {
            law(10, "10+(" + zero + ")*7");
        }
        // What wraps to 0 does not hold, what wraps elsewhere does.
        law(17, "10+(not 4096*4096*256)*7");
        law(10, "10+(not 4096*4096*128)*7");
    }

    private void milesAndFar() {
        Run one = land("land 1 1;villa 0 0 0;tax miles;tax far;");
        one.is(0, "compare", 0, 0);
        one.is(0, "compare", 1, 0);
        Run row = land("land 8 1;villa 2 0 0;tax miles;tax far;");
        row.is(7, "compare", 0, 0);
        row.is(5, "compare", 1, 0);
        row.call("sell", 0, 2);
        row.is(2, "compare", 0, 0);
        row.is(2, "compare", 1, 0);
        row.call("sell", 0, 6);
        row.is(0, "compare", 0, 0);
        row.is(0, "compare", 1, 0);
        // In a middle of 8 by 8: 3 to the left and up, 4 to the right and down, the less of two on the slant.
        Run middle = land("villa 3 3 0;tax miles;tax far;");
        middle.is(3 + 3 + 4 + 4 + 4 + 3 + 3 + 3, "compare", 0, 0);
        middle.is(4, "compare", 1, 0);
    }

    private void highKindYear() {
        Run x = land("villa 0 0 0;inn 1 0 0;high 1 0 9;blind 2 0 0;high 2 0 1;tax high;tax kind;tax year;");
        int[][] want = {{0, 9, 1}, {0, 1, 2}, {0, 0, 0}};
        for (int law = 0; law < 3; law++) {
            x.call("obey", law);
            for (int house = 0; house < 3; house++) {
                x.is(want[law][house], "house", house, 7);
            }
        }
        x.call("barn", 1, 5);
        x.call("obey", 0);
        x.is(9, "house", 1, 7);
        x.call("obey", 2);
        for (int i = 1; i < 50; i++) {
            x.call("years", 20);
        }
        x.is(980, "house", 0, 7);
        x.call("years", 19);
        x.is(999, "house", 0, 7);
    }

    private void housesSeen() {
        land("villa 3 3 0;tax houses;").is(0, "house", 0, 7);
        String five = "villa 3 3 0;inn 2 3 0;inn 4 3 0;blind 3 2 0;villa 3 4 0;villa 2 2 0;tax houses;";
        Run x = land(five);
        x.is(5, "house", 0, 7);
        x.is(62, "house", 0, 8);
        x.is(0, "house", 3, 7);
        x.call("sell", 0, 6);
        x.is(4, "house", 0, 7);
        x.is(0, "house", 3, 8);
        x.is(4 + 8 + 16 + 32, "house", 0, 8);
    }

    private void floors() {
        Run x = land("villa 0 0 0;tax floor+3;tax floor;");
        x.is(3, "house", 0, 7);
        for (int floor = -3; floor <= 3; floor++) {
            x.call("floor", 0, floor);
            x.is(floor + 3, "house", 0, 7);
            x.is(Math.max(0, floor), "compare", 1, 0);
        }
        // A number is no floor.
        Run none = land("villa 0 0 0;tax 0;");
        none.call("floor", 0, 3);
        none.is(0, "house", 0, 7);
    }

    /** Texts of the first tokens of ALL_LINES: each is whole behind a ';' and ends too soon elsewhere. */
    static List<String> beginnings() {
        List<String> all = new ArrayList<>();
        for (int at = ALL_LINES.indexOf(' '); at >= 0; at = ALL_LINES.indexOf(' ', at + 1)) {
            all.add(ALL_LINES.substring(0, at));
        }
        return all;
    }
}

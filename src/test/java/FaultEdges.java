/** Edges of faults: which, and at which byte. */
final class FaultEdges extends Edges {
    private static final String FOUR_LAWS = "tax 1;tax 2;tax 3;tax 4;";
    private static final String[] VALUES = {"miles", "far", "high", "kind", "year", "houses", "floor"};

    FaultEdges(Check check, Document document) {
        super(check, document);
    }

    @Override
    void all() {
        under("Terms");
        of("FAULTS, the first along the text", this::firstAlongTheText);
        of("at a TOKEN's first byte", this::firstByte);
        of("of one TOKEN the least", this::leastOfOneToken);
        of("1 a TOKEN that can't stand there, or is none", this::cannotStand);
        of("(the text's length where it ends too soon", this::endsTooSoon);
        of("'land' but at the beginning)", this::landAtTheBeginning);
        of("2 one that can, but is too much: a NUMBER of 5 digits or more", this::fiveDigits);
        of("or (not in an EXPR) not as told (an X, a Y that there isn't", this::noSuchCell);
        of("a TOP below how high it is)", this::topBelow);
        of("the first TOKEN of the 13th TREE", this::thirteenthTree);
        of("the 7th HOUSE", this::seventhHouse);
        of("the 5th of LAWS", this::fifthLaw);
        of("the 9th FOG", this::ninthFog);
        of("of an EXPR within 6 others (a NUMBER, any word, a parenthesis)", this::withinSixOthers);
        of("the seventh 'not' side by side", this::seventhNot);
        of("3 any word where a PART must stand that is no VALUE", this::noValue);
        of("4 the Y of a CELL whose HEIGHT was told", this::heightTold);
        of("in which there is a TREE or a HOUSE already (of a TREE, a HOUSE)", this::cellTaken);
        of("5 a second 'fog'.", this::secondFog);
    }

    private void firstAlongTheText() {
        check.at(5, "fog 1;@fog 1;hill;");
        check.at(1, "fog 1;@hill;fog 1;");
        check.at(4, "high 0 0 1;high 0 @0 10;");
        check.at(2, "high 0 0 1;high @8 0 10;");
        check.at(3, "tax @hill + 12345;");
        check.at(2, "tax @12345 + hill;");
        check.at(2, "high @9 x;");
        check.at(1, "high @x 9;");
    }

    private void firstByte() {
        check.at(1, "@hill;");
        check.at(1, "   \n @hill;");
        check.at(2, "high 0 0 \n\n @12345;");
        check.at(3, "tax \n @hill;");
        check.at(4, "high 0 0 1;high 0   @0 1;");
        check.at(5, "fog 1;  @fog 1;");
        check.at(1, "fog 1  @#;");
    }

    private void leastOfOneToken() {
        // What can't stand there, though it would be too much, too.
        check.at(1, trees(12) + "fog 1 @tree 7 7 1 1;");
        check.at(1, houses(6) + "fog 1 @villa 7 7 1;");
        check.at(1, FOUR_LAWS + "fog 1 @tax 5;");
        check.at(1, "high 0 0 1 @12345;");
        check.at(1, "tax 1 @12345;");
        check.at(1, "tax ((((((@);");
        check.at(1, "tax 1 @not not not not not not not 1;");
        check.at(1, "fog 1 @fog 2;");
        check.at(1, "fog 1 1 1 1 1 1 1 1 @fog;");
        check.at(1, "tax 1 @hill;");
        // Too much, though it is no value, or the Y of a cell that was told.
        check.at(2, "tax ((((((@hill))))));");
        check.at(2, "tax ((((((@and 1))))));");
        check.at(2, "high 1 2 3;high 1 @00002 3;");
        check.at(2, "tree 1 2 3 3;villa 1 @00002 3;");
        // No value, though it is the seventh beside six others.
        check.at(3, "tax 1 + @not not not not not not not 1;");
    }

    private void cannotStand() {
        check.at(1, "@#");
        check.at(1, "@Tax 1;");
        check.at(1, "@miles;");
        check.at(1, "@not 1;");
        check.at(1, "@12345;");
        check.at(1, "@(");
        check.at(1, "fog 1@\t;");
        check.at(1, "fog 1@,2;");
        check.at(1, "tax 1 @# 2;");
        check.at(1, "tax @#;");
        check.at(1, "high 0 0 1@.5;");
        check.at(1, "tax 1; @2;");
        check.at(1, "fog 1;@" + (char) 233);
        check.at(1, "@" + (char) 0);
        check.at(1, "@" + (char) 255);
    }

    private void endsTooSoon() {
        for (String text : TextEdges.beginnings()) {
            if (text.endsWith(";")) {
                check.fine(text);
                check.fine(text + " \n ");
            } else {
                check.fault(text, 1, text.length());
                check.fault(text + " \n ", 1, text.length() + 3);
            }
        }
        // What stands behind the text on the tape is none of it.
        Run x = fresh();
        x.put("fog 12;");
        x.is(1, "duchy", 5);
        x.is(5, "fault");
        x.put("taxmiles;");
        x.is(1, "duchy", 3);
        x.is(3, "fault");
    }

    private void landAtTheBeginning() {
        check.fine("land 1 1;");
        check.fine(" \n land 1 1;");
        check.at(1, "land 1 1;@land 1 1;");
        check.at(1, "fog 1;@land 1 1;");
        check.at(1, "@;land 1 1;");
        check.at(1, "land @land 1 1;");
        check.at(1, "fog 1 @land 1 1;");
        check.at(3, "tax @land;");
        check.at(1, "@lands 1 1;");
    }

    private void fiveDigits() {
        for (String line : new String[] {"land @1 1;", "land 1 @1;", "high @1 1 1;", "high 1 @1 1;", "high 1 1 @1;",
            "tree @1 1 1 1;", "tree 1 @1 1 1;", "tree 1 1 @1 1;", "tree 1 1 1 @1;", "villa @1 1 1;", "villa 1 @1 1;",
            "villa 1 1 @1;", "inn 1 1 @1;", "blind 1 1 @1;", "fog @1;", "fog 1 @1;", "tax @1;", "tax 1 + @1;", "tax (@1);",
            "tax not @1;", "tax 1 = @1;"}) {
            check.fine(line.replace("@1", "0001"));
            check.at(2, line.replace("@1", "@00001"));
            check.at(2, line.replace("@1", "@10000"));
            check.at(2, line.replace("@1", "@4294967297"));
            check.at(2, line.replace("@1", "@18446744073709551617"));
        }
        check.fine("tax 9999;");
        check.at(2, "tax @10000;");
    }

    private void noSuchCell() {
        for (String[] line : new String[][] {{"high", "1"}, {"tree", "1 1"}, {"villa", "1"}, {"inn", "1"}, {"blind", "1"}}) {
            check.fine("land 3 2;" + line[0] + " 0 0 " + line[1] + ";");
            check.fine("land 3 2;" + line[0] + " 2 1 " + line[1] + ";");
            check.at(2, "land 3 2;" + line[0] + " @3 0 " + line[1] + ";");
            check.at(2, "land 3 2;" + line[0] + " 2 @2 " + line[1] + ";");
            check.fine(line[0] + " 7 7 " + line[1] + ";");
            check.at(2, line[0] + " @8 0 " + line[1] + ";");
            check.at(2, line[0] + " 0 @8 " + line[1] + ";");
            check.fine("land 1 1;" + line[0] + " 0 0 " + line[1] + ";");
            check.at(2, "land 1 1;" + line[0] + " @1 0 " + line[1] + ";");
            check.at(2, "land 1 1;" + line[0] + " 0 @1 " + line[1] + ";");
        }
        // In an EXPR a number is as it is.
        check.fine("land 1 1;tax 9999;");
        check.fine("land 1 1;tax 0;");
    }

    private void topBelow() {
        for (int high = 1; high <= 9; high++) {
            check.fine("tree 0 0 " + high + " " + high + ";");
            check.at(2, "tree 0 0 " + high + " @" + (high - 1) + ";");
        }
    }

    private void thirteenthTree() {
        check.fine(trees(12));
        check.at(2, trees(12) + "@tree 7 7 1 1;");
        check.at(2, trees(12) + "@tree 0 0 0 0;");
        check.at(2, trees(12) + "@tree");
        check.at(2, trees(12) + "fog 1;  @tree;");
        check.at(1, trees(12) + "@trees;");
    }

    private void seventhHouse() {
        check.fine(houses(6));
        for (String kind : new String[] {"villa", "inn", "blind"}) {
            check.at(2, houses(6) + "@" + kind + " 7 7 1;");
            check.at(2, houses(6) + "@" + kind + " 0 0 1;");
            check.at(2, houses(6) + "@" + kind);
            check.fine(houses(5) + kind + " 7 7 1;");
        }
        check.fine(houses(6) + "tree 7 7 1 1;");
    }

    private void fifthLaw() {
        check.fine(FOUR_LAWS);
        check.at(2, FOUR_LAWS + "@tax 5;");
        check.at(2, FOUR_LAWS + "@tax hill;");
        check.at(2, FOUR_LAWS + "@tax");
    }

    private void ninthFog() {
        check.fine("fog 1 2 3 4 5 6 7 8;");
        check.at(2, "fog 1 2 3 4 5 6 7 8 @9;");
        check.at(2, "fog 1 2 3 4 5 6 7 8 @0;");
        check.at(2, "fog 1 2 3 4 5 6 7 8 @12345;");
        check.at(2, "fog 1 2 3 4 5 6 7 8 @1");
        check.at(1, "fog 1 2 3 4 5 6 7 8 @x;");
        check.at(1, "fog 1 2 3 4 5 6 7 8@");
    }

    private void withinSixOthers() {
        check.fine("tax (((((1)))));");
        check.fine("tax (((((miles)))));");
        check.fine("tax (((((not 1)))));");
        for (String first : new String[] {"1", "12345", "miles", "not 1", "hill", "and", "tax", "land", "(1)", "("}) {
            check.at(2, "tax ((((((@" + first + "))))));");
        }
        for (String first : new String[] {")", "+1", "<1", ";", "#", ""}) {
            check.at(1, "tax ((((((@" + first);
        }
        check.fine("tax 1+(1-(1*(1/(1<(1)))));");
        check.at(2, "tax 1+(1-(1*(1/(1<(1=(@1))))));");
        check.at(2, "tax not (not (not (not (not (not (@not 1))))));");
        // What is closed is within no more.
        check.fine("tax (((((1)))))+(((((1)))));");
        check.at(2, "tax (((((1)))))+((((((@1))))));");
        check.fine("tax ((1)+((((1)))));");
        check.at(2, "tax ((1)+(((((@1))))));");
        check.fine("tax (1)+(1)+(1)+(1)+(1)+(1)+(1)+(1);");
        check.fine("tax (((((1))))); tax (((((1)))));");
    }

    private void seventhNot() {
        String six = "not not not not not not ";
        check.fine("tax " + six + "1;");
        check.at(2, "tax " + six + "@not 1;");
        check.at(2, "tax " + six + "@not");
        check.at(2, "tax 1 and " + six + "@not 1;");
        check.at(2, "tax 1 or " + six + "@not 1;");
        check.at(2, "tax (" + six + "@not 1);");
        check.at(2, "tax not 1 and " + six + "@not 1;");
        check.fine("tax " + six + "1 and " + six + "1 or " + six + "1;");
        check.fine("tax " + six + "(" + six + "1);");
        check.at(3, "tax " + six + "@nota 1;");
        law(1, six + "5");
        law(0, "not not not not not 5");
    }

    private void noValue() {
        for (String ahead : new String[] {"", "(", "not ", "1 and ", "1 or ", "1 < ", "1 = ", "1 + ", "1 - ", "1 * ",
            "1 / ", "(1) + (", "1 < 2 and "}) {
            for (String value : VALUES) {
                check.same("duchy of tax " + ahead + value, 1, fresh().told("tax " + ahead + value));
                check.at(3, "tax " + ahead + "@" + value + "s;");
                check.at(3, "tax " + ahead + "@" + value.substring(1) + ";");
            }
            for (String word : new String[] {"hill", "and", "or", "land", "tree", "villa", "inn", "blind", "fog", "tax", "x"}) {
                check.at(3, "tax " + ahead + "@" + word + ";");
            }
        }
        for (String operator : new String[] {"<", "=", "+", "-", "*", "/"}) {
            check.at(3, "tax 1 " + operator + " @not 1;");
        }
        for (String ahead : new String[] {"", "(", "not ", "1 and ", "1 or "}) {
            check.at(1, "tax " + ahead + "not 1@");
        }
        // Behind a PART no other one must stand.
        check.at(1, "tax 1 @hill;");
        check.at(1, "tax (1) @hill;");
        check.at(1, "tax miles @far;");
    }

    private void heightTold() {
        check.at(4, "high 1 2 3;high 1 @2 3;");
        check.at(4, "high 1 2 0;high 1 @2 0;");
        check.at(4, "high 0 0 0;high 0 @0 9;");
        check.at(4, "high 7 7 0;high 7 @7 9;");
        check.at(4, "land 1 1;high 0 0 9;high 0 @0 9;");
        check.at(4, "high 1 2 3;high 2 1 3;fog 1;high 1 @2");
        check.fine("high 1 2 3;high 2 1 3;high 1 1 3;high 2 2 3;high 0 2 3;high 1 3 3;");
        // Of a HEIGHT it counts for nothing what is in the CELL.
        check.fine("tree 1 2 3 3;high 1 2 3;villa 0 0 0;high 0 0 0;");
        check.fine("high 1 2 3;tree 1 2 3 3;high 0 0 0;villa 0 0 0;");
    }

    private void cellTaken() {
        for (String first : new String[] {"tree 7 7 1 1;", "villa 7 7 0;", "inn 7 7 0;", "blind 7 7 0;"}) {
            for (String second : new String[] {"tree 7 @7 1 1;", "villa 7 @7 0;", "inn 7 @7 0;", "blind 7 @7 0;",
                "tree 7 @7", "villa 7 @7 x"}) {
                check.at(4, first + second);
                check.at(4, first + "tree 0 0 1 1;high 7 7 1;" + second);
            }
            check.fine(first + "tree 6 7 1 1;villa 7 6 0;");
        }
        for (String first : new String[] {"tree 0 0 1 1;", "villa 0 0 0;"}) {
            check.at(4, first + "inn 0 @0 0;");
            check.fine(first + "inn 1 0 0;inn 0 1 0;");
        }
    }

    private void secondFog() {
        check.fine("fog 1;");
        check.at(5, "fog 1;@fog 1;");
        check.at(5, "fog 1;@fog");
        check.at(5, "fog 1;high 0 0 1;tax 1;@fog 1;");
        check.at(5, "fog 1 2 3 4 5 6 7 8;@fog 1;");
        check.at(1, "fog 1;@fogs 1;");
        // One of each text, not of each object.
        check.same("duchy", 0, land("fog 1;").told("fog 2;"));
    }
}

/** Edges of what a land may have: the least, the most, and what there is without. */
final class LandEdges extends Edges {
    LandEdges(Check check, Document document) {
        super(check, document);
    }

    @Override
    void all() {
        under("Terms");
        of("THE LAND is W by H CELLS (1 to 8 each; 8 by 8 without)", this::sides);
        of("x from the left (0), y from the top (0); a CELL's number is W by y and x.", this::numbersOfCells);
        of("Each has a HEIGHT (0 to 9; 0 without).", this::heights);
        of("TREES 0, 1 .. (at most 12)", this::atMostTwelveTrees);
        of("a CELL (no two in one, none in that of a HOUSE)", this::noTwoTreesInOneCell);
        of("how high it is (1 to 9)", this::highOfATree);
        of("TOP (that or more, to 9).", this::topOfATree);
        of("HOUSES 0, 1 .. (at most 6)", this::atMostSixHouses);
        of("a CELL (no two in one)", this::noTwoHousesInOneCell);
        of("a KIND (0 villa, 1 inn, 2 blind)", this::kinds);
        of("a PURSE (0 to 999)", this::purses);
        of("FLOOR 0, BARN 0 at first.", this::atFirst);
        of("FOGS (at most 8; 1 to 9 each)", this::atMostEightFogs);
        of("in YEAR i that which is the (i MOD how many)-th", this::fogOfAYear);
        of("9 without.", this::withoutFogs);
        of("LAWS 0, 1 .. (at most 4): rules.", this::atMostFourLaws);
        of("The constants: `NONE = -1`: There is none.", this::none);
    }

    private void sides() {
        for (int[] side : new int[][] {{1, 1}, {1, 8}, {8, 1}, {8, 8}}) {
            Run x = land("land " + side[0] + " " + side[1] + ";");
            x.is(side[0], "count", 0);
            x.is(side[1], "count", 1);
            x.is(0, "cell", side[0] * side[1] - 1, 0);
            x.noSuch("cell", side[0] * side[1], 0);
        }
        check.at(2, "land @0 8;");
        check.at(2, "land @9 8;");
        check.at(2, "land 8 @0;");
        check.at(2, "land 8 @9;");
        Run without = land("land 1 2;").with("fog 1;");
        without.is(8, "count", 0);
        without.is(8, "count", 1);
        without.is(0, "cell", 63, 0);
        without.noSuch("cell", 64, 0);
    }

    private void numbersOfCells() {
        onlyHigh(6, "land 3 2;high 2 1 7;", 5);
        onlyHigh(6, "land 2 3;high 1 2 7;", 5);
        onlyHigh(6, "land 3 2;high 0 1 7;", 3);
        onlyHigh(6, "land 2 3;high 0 1 7;", 2);
        onlyHigh(64, "high 0 0 7;", 0);
        onlyHigh(64, "high 7 0 7;", 7);
        onlyHigh(64, "high 0 7 7;", 56);
        onlyHigh(64, "high 7 7 7;", 63);
        onlyHigh(1, "land 1 1;high 0 0 7;", 0);
    }

    private void onlyHigh(int cells, String text, int high) {
        Run x = land(text);
        for (int cell = 0; cell < cells; cell++) {
            x.is(cell == high ? 7 : 0, "cell", cell, 0);
        }
        x.noSuch("cell", cells, 0);
    }

    private void heights() {
        Run x = land("high 0 0 0;high 1 0 1;high 2 0 9;");
        x.is(0, "cell", 0, 0);
        x.is(1, "cell", 1, 0);
        x.is(9, "cell", 2, 0);
        x.is(0, "cell", 3, 0);
        check.at(2, "high 0 0 @10;");
        check.at(1, "high 0 0 @-1;");
        // What one text told is gone with the next one.
        x.with("fog 1;").is(0, "cell", 2, 0);
    }

    private void atMostTwelveTrees() {
        Run none = land("fog 1;");
        none.is(0, "count", 2);
        none.noSuch("tree", 0, 0);
        Run x = land(trees(12));
        x.is(12, "count", 2);
        for (int tree = 0; tree < 12; tree++) {
            x.is(tree, "tree", tree, 0);
            x.is(tree, "cell", tree, 2);
        }
        x.noSuch("tree", 12, 0);
        check.at(2, trees(12) + "@tree 7 7 1 1;");
    }

    private void noTwoTreesInOneCell() {
        check.at(4, "tree 3 2 1 1;tree 3 @2 1 1;");
        check.at(4, "villa 3 2 0;tree 3 @2 1 1;");
        check.at(4, "inn 3 2 0;tree 3 @2 1 1;");
        check.at(4, "blind 3 2 0;tree 3 @2 1 1;");
        check.at(4, "land 1 1;tree 0 0 1 1;tree 0 @0 1 1;");
        check.fine("tree 3 2 1 1;tree 2 3 1 1;");
        check.fine("tree 2 2 1 1;tree 3 2 1 1;tree 4 2 1 1;tree 3 1 1 1;tree 3 3 1 1;villa 2 1 0;inn 4 1 0;blind 4 3 0;");
    }

    private void highOfATree() {
        check.at(2, "tree 0 0 @0 9;");
        land("tree 0 0 1 9;").is(1, "tree", 0, 1);
        land("tree 0 0 9 9;").is(9, "tree", 0, 1);
        check.at(2, "tree 0 0 @10 9;");
    }

    private void topOfATree() {
        check.at(2, "tree 0 0 1 @0;");
        land("tree 0 0 1 1;").is(1, "tree", 0, 2);
        check.at(2, "tree 0 0 5 @4;");
        land("tree 0 0 5 5;").is(5, "tree", 0, 2);
        land("tree 0 0 5 6;").is(6, "tree", 0, 2);
        land("tree 0 0 5 9;").is(9, "tree", 0, 2);
        check.at(2, "tree 0 0 5 @10;");
        check.at(2, "tree 0 0 9 @8;");
        land("tree 0 0 9 9;").is(9, "tree", 0, 2);
        check.at(2, "tree 0 0 9 @10;");
    }

    private void atMostSixHouses() {
        Run none = land("fog 1;");
        none.is(0, "count", 3);
        none.noSuch("house", 0, 0);
        Run x = land(houses(6));
        x.is(6, "count", 3);
        for (int house = 0; house < 6; house++) {
            x.is(house, "house", house, 0);
            x.is(house, "cell", house, 3);
        }
        x.noSuch("house", 6, 0);
        check.at(2, houses(6) + "@villa 7 7 1;");
    }

    private void noTwoHousesInOneCell() {
        check.at(4, "villa 3 2 0;villa 3 @2 0;");
        check.at(4, "villa 3 2 0;inn 3 @2 0;");
        check.at(4, "villa 3 2 0;blind 3 @2 0;");
        check.at(4, "land 1 1;blind 0 0 0;inn 0 @0 0;");
        check.at(4, "tree 3 2 1 1;villa 3 @2 0;");
        check.fine("villa 3 2 0;villa 2 3 0;");
        check.fine("villa 3 2 0;villa 2 2 0;inn 4 2 0;blind 3 1 0;inn 3 3 0;");
    }

    private void kinds() {
        Run x = land("villa 0 0 0;inn 1 0 0;blind 2 0 0;");
        for (int kind = 0; kind < 3; kind++) {
            x.is(kind, "house", kind, 1);
        }
        check.at(1, "@barn 0 0 0;");
    }

    private void purses() {
        for (String kind : new String[] {"villa", "inn", "blind"}) {
            land(kind + " 0 0 0;").is(0, "house", 0, 2);
            land(kind + " 0 0 999;").is(999, "house", 0, 2);
            check.at(2, kind + " 0 0 @1000;");
            check.at(1, kind + " 0 0 @-1;");
        }
    }

    private void atFirst() {
        Run x = land(houses(6));
        for (int house = 0; house < 6; house++) {
            x.call("floor", house, 3);
            x.call("barn", house, 5);
        }
        x.with(houses(6));
        for (int house = 0; house < 6; house++) {
            x.is(0, "house", house, 3);
            x.is(0, "house", house, 4);
        }
    }

    private void atMostEightFogs() {
        check.at(2, "fog @0;");
        land("fog 1;").is(1, "count", 7);
        land("fog 9;").is(9, "count", 7);
        check.at(2, "fog @10;");
        check.at(2, "fog 1 1 1 1 1 1 1 @0;");
        check.at(2, "fog 1 1 1 1 1 1 1 @10;");
        Run x = land("fog 8 7 6 5 4 3 2 1;");
        for (int year = 0; year < 8; year++) {
            x.is(8 - year, "count", 7);
            x.call("years", 1);
        }
        check.at(2, "fog 8 7 6 5 4 3 2 1 @9;");
        check.at(1, "fog@;");
    }

    private void fogOfAYear() {
        Run one = land("fog 4;");
        Run three = land("fog 4 5 6;");
        Run eight = land("fog 1 2 3 4 5 6 7 8;");
        for (int year = 0; year < 20; year++) {
            one.is(4, "count", 7);
            three.is(4 + year % 3, "count", 7);
            eight.is(1 + year % 8, "count", 7);
            one.call("years", 1);
            three.call("years", 1);
            eight.call("years", 1);
        }
        Run last = land("fog 4 5 6 7 8 9 1;");
        for (int i = 0; i < 49; i++) {
            last.call("years", 20);
        }
        last.is(999, "years", 19);
        // 999 is 142 times 7, and 5.
        last.is(9, "count", 7);
    }

    private void withoutFogs() {
        Run x = land("land 8 1;villa 0 0 0;");
        x.is(9, "count", 7);
        x.is(7, "miles", 0, 2);
        x.call("years", 20);
        x.is(9, "count", 7);
        x.with("land 8 1;villa 0 0 0;fog 2;").is(2, "miles", 0, 2);
        x.with("land 8 1;villa 0 0 0;").is(7, "miles", 0, 2);
    }

    private void atMostFourLaws() {
        Run none = land("villa 0 0 0;");
        none.is(0, "count", 4);
        none.noSuch("compare", 0, 0);
        Run x = land("villa 0 0 0;tax 11;tax 12;tax 13;tax 14;");
        x.is(4, "count", 4);
        for (int law = 0; law < 4; law++) {
            x.is(11 + law, "compare", law, 0);
        }
        x.noSuch("compare", 4, 0);
        check.at(2, "tax 11;tax 12;tax 13;tax 14;@tax 15;");
    }

    private void none() {
        check.same("NONE", -1, HorizonDues.NONE);
    }
}

/** Edges of what is seen, of tax, and of a year. */
final class SightEdges extends Edges {
    private static final int[] STEP_X = {0, 1, 1, 1, 0, -1, -1, -1};
    private static final int[] STEP_Y = {-1, -1, 0, 1, 1, 1, 0, -1};

    SightEdges(Check check, Document document) {
        super(check, document);
    }

    @Override
    void all() {
        under("Terms");
        of("A CELL stands as high as its HEIGHT, and the TREE in it, or the HOUSE in it (2 and its BARN).", this::stands);
        of("From a HOUSE one looks from its HEIGHT and 2 and its FLOOR (below 0: dug).", this::eyes);
        of("DIRECTIONS 0 to 7: up (y less 1), up and right, right, down and right, down, down and left, left, up and left.",
            this::directions);
        of("In a DIRECTION the CELL k steps off is SEEN, if k is no more than the FOG", this::withinTheFog);
        of("and its slope (how much higher it stands than from where one looks, by k) is more than that of each CELL "
            + "nearer in this DIRECTION", this::slopes);
        of("(the first one always is).", this::firstCell);
        of("MILES in it are the steps to the farthest CELL SEEN (0 without one; also if the view was SOLD).", this::miles);
        of("Of a blind HOUSE nothing is SEEN, MILES are 0.", this::blind);
        of("(A view that was SOLD counts for nothing that is SEEN, either.)", this::soldViews);
        of("TAX of a HOUSE by a LAW: what it gives (kept to 0 to 999)", this::keptTo);
        of("by none: its MILES.", this::byNone);
        of("A YEAR: each HOUSE pays TAX by the LAW in force (LAW 0 at first, none without) from its PURSE "
            + "(that may be below 0 then)", this::paying);
        of("then each TREE is 1 higher, up to its TOP", this::growing);
        of("and the YEAR is one more (0 at first).", this::oneYearMore);
    }

    private void stands() {
        Run x = land("high 1 0 9;tree 2 0 1 1;tree 3 0 9 9;high 3 0 9;villa 4 0 0;inn 5 0 0;high 5 0 9;blind 6 0 0;");
        int[] stand = {0, 9, 1, 18, 2, 11, 2};
        for (int cell = 0; cell < stand.length; cell++) {
            x.is(stand[cell], "cell", cell, 1);
        }
        x.call("barn", 0, 5);
        x.call("barn", 1, 5);
        x.call("barn", 2, 1);
        x.is(7, "cell", 4, 1);
        x.is(16, "cell", 5, 1);
        x.is(3, "cell", 6, 1);
        // A floor changes from where one looks, not how high the house stands.
        x.call("floor", 0, 3);
        x.call("floor", 2, -3);
        x.is(7, "cell", 4, 1);
        x.is(3, "cell", 6, 1);
        x.call("fell", 1);
        x.is(9, "cell", 3, 1);
    }

    /** The last cell of three is seen by an eye of more than twice the middle one's height less its own. */
    private void eyes() {
        for (int height : new int[] {0, 1, 5, 9}) {
            for (int middle = 0; middle <= 9; middle++) {
                for (int last = 0; last <= 1; last++) {
                    Run x = land("land 3 1;villa 0 0 0;high 0 0 " + height + ";high 1 0 " + middle + ";high 2 0 " + last + ";");
                    for (int floor = -3; floor <= 3; floor++) {
                        x.call("floor", 0, floor);
                        boolean over = height + 2 + floor > 2 * middle - last;
                        x.is(over ? 6 : 2, "seen", 0);
                    }
                    // One's own barn lifts nobody.
                    x.call("floor", 0, 0);
                    x.call("barn", 0, 5);
                    x.is(height + 2 > 2 * middle - last ? 6 : 2, "seen", 0);
                }
            }
        }
    }

    /** On flat land one sees to its border in every direction. */
    private void directions() {
        for (int cell = 0; cell < 64; cell++) {
            Run x = land("villa " + cell % 8 + " " + cell / 8 + " 0;");
            for (int direction = 0; direction < 8; direction++) {
                int steps = 0;
                while (onLand(cell, direction, steps + 1)) {
                    steps++;
                }
                x.is(steps, "miles", 0, direction);
            }
            x.noSuch("miles", 0, -1);
            x.noSuch("miles", 0, 8);
        }
        int[] beside = {1, 2, 5, 8, 7, 6, 3, 0};
        for (int direction = 0; direction < 8; direction++) {
            Run x = land("land 3 3;villa 1 1 0;");
            for (int other = 0; other < 8; other++) {
                if (other != direction) {
                    x.call("sell", 0, other);
                }
            }
            x.is(1L << beside[direction], "seen", 0);
        }
        // A land's right side is not next to its left one.
        land("land 3 3;villa 2 1 0;").is(1 << 2 | 1 << 1 | 1 << 4 | 1 << 3 | 1 << 8 | 1 << 7, "seen", 0);
        land("land 3 3;villa 0 1 0;").is(1 | 1 << 1 | 1 << 4 | 1 << 5 | 1 << 6 | 1 << 7, "seen", 0);
    }

    private static boolean onLand(int cell, int direction, int steps) {
        int x = cell % 8 + steps * STEP_X[direction];
        int y = cell / 8 + steps * STEP_Y[direction];
        return x >= 0 && x < 8 && y >= 0 && y < 8;
    }

    private void withinTheFog() {
        for (int fog = 1; fog <= 9; fog++) {
            Run x = land("land 8 1;villa 0 0 0;fog " + fog + ";");
            int far = Math.min(7, fog);
            x.is(far, "miles", 0, 2);
            x.is((1 << far + 1) - 2, "seen", 0);
        }
        Run slant = land("villa 0 0 0;fog 6;");
        slant.is(6, "miles", 0, 3);
        slant.is(1, "cell", 54, 4);
        slant.is(0, "cell", 63, 4);
    }

    private void row(long seen, int... heights) {
        StringBuilder s = new StringBuilder("land ").append(heights.length + 1).append(" 1;villa 0 0 0;");
        for (int i = 0; i < heights.length; i++) {
            s.append("high ").append(i + 1).append(" 0 ").append(heights[i]).append(';');
        }
        land(s.toString()).is(seen, "seen", 0);
    }

    /** From 2 high: a cell of so many heights at each step, and the cells that are seen, as bits. */
    private void slopes() {
        // A slope that is the same is not more: 0 and 0, 1 and 1, -1 and -1.
        row(2, 2, 2);
        row(2, 3, 4);
        row(2, 1, 0);
        // One more is.
        row(2 + 4, 2, 3);
        row(2 + 4, 3, 5);
        row(2 + 4, 1, 1);
        // -2, -1, -2/3: flat land; -1/2 and -2/3; 1/2 and 1/3; 1/2 and 2/3.
        row(2 + 4 + 8, 0, 0, 0);
        row(2 + 4, 0, 1, 0);
        row(2 + 4 + 8, 0, 1, 1);
        row(2 + 4, 0, 3, 3);
        row(2 + 4 + 8, 0, 3, 4);
        // 2/3 and 4/6, 2/3 and 5/6.
        row(2 + 4 + 8, 0, 0, 4, 0, 0, 6);
        row(2 + 4 + 8 + 64, 0, 0, 4, 0, 0, 7);
        // 1, 1/2, 2/3: more than the one nearest to it, but not than each.
        row(2, 3, 3, 4);
        row(2 + 8, 3, 3, 6);
        // Behind what hides much one sees what stands higher still: 1 and 7/7, 1/2 and 7/7.
        row(2, 3, 0, 0, 0, 0, 0, 9);
        row(2 + 4 + 128, 0, 3, 0, 0, 0, 0, 9);
    }

    private void firstCell() {
        Run high = land("land 3 1;villa 0 0 0;tree 1 0 9 9;high 1 0 9;");
        high.call("floor", 0, -3);
        high.is(2, "seen", 0);
        high.is(1, "miles", 0, 2);
        Run low = land("land 3 1;villa 0 0 0;high 0 0 9;");
        low.call("floor", 0, 3);
        low.is(6, "seen", 0);
        Run fog = land("land 3 1;villa 0 0 0;tree 1 0 9 9;fog 1;");
        fog.is(2, "seen", 0);
        Run inn = land("land 2 1;villa 0 0 0;inn 1 0 0;");
        inn.is(2, "seen", 0);
        inn.is(1, "seen", 1);
    }

    private void miles() {
        Run one = land("land 1 1;villa 0 0 0;");
        for (int direction = 0; direction < 8; direction++) {
            one.is(0, "miles", 0, direction);
        }
        one.is(0, "house", 0, 6);
        one.is(0, "seen", 0);
        // Cells 2 and 3 are hidden, cell 4 is seen.
        Run x = land("land 5 1;villa 0 0 0;high 1 0 3;high 4 0 7;");
        x.is(2 + 16, "seen", 0);
        x.is(4, "miles", 0, 2);
        x.is(0, "miles", 0, 6);
        x.is(0, "miles", 0, 0);
        x.call("sell", 0, 2);
        x.is(0, "miles", 0, 2);
        x.is(0, "house", 0, 6);
        x.call("undo");
        x.is(4, "house", 0, 6);
    }

    private void blind() {
        Run x = land("land 3 3;blind 1 1 0;villa 0 0 0;");
        for (int direction = 0; direction < 8; direction++) {
            x.is(0, "miles", 0, direction);
        }
        x.is(0, "house", 0, 6);
        x.is(0, "seen", 0);
        x.is(0, "house", 0, 8);
        x.call("floor", 0, 3);
        x.is(0, "house", 0, 6);
        x.is(0, "seen", 0);
        // It is seen itself, and by it nothing is.
        x.is(2, "cell", 4, 4);
        x.is(1, "house", 1, 8);
        x.is(0, "cell", 0, 4);
    }

    private void soldViews() {
        Run x = land("land 3 1;villa 0 0 0;inn 2 0 0;tax houses*100+far*10+miles;");
        x.is(6, "seen", 0);
        x.is(122, "house", 0, 7);
        x.is(1, "cell", 2, 4);
        x.call("sell", 0, 2);
        x.is(0, "seen", 0);
        x.is(0, "house", 0, 7);
        x.is(0, "house", 0, 8);
        x.is(0, "cell", 2, 4);
        x.is(2, "cell", 1, 4);
        // The other one's view is not sold by that.
        x.is(3, "seen", 1);
        x.is(1, "house", 1, 8);
    }

    private void keptTo() {
        law(0, "0-1");
        law(0, "0-9999");
        law(0, "0");
        law(1, "1");
        law(998, "998");
        law(999, "999");
        law(999, "1000");
        law(999, "9999*9999");
        // Each one's is kept by itself, not all together.
        Run x = land(houses(6) + "tax 1000;tax kind*2000-1000;");
        x.is(6 * 999, "count", 8);
        x.call("obey", 1);
        x.is(4 * 999, "count", 8);
    }

    private void byNone() {
        Run x = land("villa 3 3 0;inn 0 0 0;blind 7 7 0;tax 500;");
        x.call("obey", -1);
        for (int house = 0; house < 3; house++) {
            x.is(x.call("house", house, 6), "house", house, 7);
        }
        // Up 3, slants 3 and 4 and 3 and 3, right 4, down 4, left 3; a corner's 7 and 7 and, to the villa, 3.
        x.is(27, "house", 0, 7);
        x.is(17, "house", 1, 7);
        x.is(0, "house", 2, 7);
        x.is(44, "count", 8);
    }

    private void paying() {
        Run x = land("villa 0 0 5;inn 7 7 4;blind 7 0 0;tax 5;tax 6;");
        x.is(0, "count", 5);
        x.call("years", 1);
        x.is(0, "house", 0, 2);
        x.is(-1, "house", 1, 2);
        x.is(-5, "house", 2, 2);
        x.call("obey", 1);
        x.call("years", 2);
        x.is(-12, "house", 0, 2);
        x.is(-13, "house", 1, 2);
        Run none = land("land 3 1;villa 0 0 5;");
        none.is(-1, "count", 5);
        none.call("years", 1);
        none.is(3, "house", 0, 2);
        Run most = land("villa 0 0 0;tax 999;");
        for (int i = 0; i < 49; i++) {
            most.call("years", 20);
        }
        most.call("years", 19);
        most.is(-999 * 999, "house", 0, 2);
        // Tax is that of the year which ends, ahead of what grows in it: slope -1 hides nothing of -2/3, slope 0 does.
        Run tree = land("land 4 1;villa 0 0 50;tree 1 0 1 9;");
        tree.call("years", 1);
        tree.is(47, "house", 0, 2);
        tree.call("years", 1);
        tree.is(46, "house", 0, 2);
    }

    private void growing() {
        Run x = land("tree 0 0 1 1;tree 1 0 1 2;tree 2 0 8 9;tree 3 0 9 9;tree 4 0 1 9;");
        int[][] high = {{1, 1, 8, 9, 1}, {1, 2, 9, 9, 2}, {1, 2, 9, 9, 3}};
        for (int[] year : high) {
            for (int tree = 0; tree < 5; tree++) {
                x.is(year[tree], "tree", tree, 1);
                x.is(year[tree], "cell", tree, 1);
            }
            x.call("years", 1);
        }
        x.call("years", 20);
        x.is(9, "tree", 4, 1);
        x.is(1, "tree", 0, 2);
        x.is(9, "tree", 4, 2);
        // Also within years that go by at once: up to 4 high the tree does not hide what stands at 8 behind it (3 and 2).
        Run once = land("land 3 1;villa 0 0 50;tree 1 0 1 9;high 2 0 8;");
        once.call("years", 6);
        once.is(50 - 4 * 2 - 2, "house", 0, 2);
        once.call("undo");
        for (int year = 1; year <= 6; year++) {
            once.call("years", 1);
            once.is(50 - 2 * Math.min(year, 4) - Math.max(0, year - 4), "house", 0, 2);
        }
    }

    private void oneYearMore() {
        Run x = land("villa 0 0 0;tax year;");
        x.is(0, "count", 6);
        x.is(1, "years", 1);
        x.is(1, "count", 6);
        // The year 0 was for nothing, the years 1, 2 and 3 are paid for then.
        x.is(0, "house", 0, 2);
        x.is(4, "years", 3);
        x.is(-6, "house", 0, 2);
        x.with("villa 0 0 0;").is(0, "count", 6);
    }
}

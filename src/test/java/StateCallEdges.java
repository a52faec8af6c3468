import java.util.Map;

/** Edges of the calls that tell, show and change what there is: promises 1 to 18, 40 and 41. */
final class StateCallEdges extends Edges {
    /** Eight cells, two houses, two trees, two laws. */
    static final String SMALL = "land 4 2;villa 0 0 50;inn 3 1 9;tree 2 0 3 5;tree 1 1 1 9;fog 3 2;tax miles;tax 5;high 1 0 2;";
    private static final int MIN = Integer.MIN_VALUE;
    private static final int MAX = Integer.MAX_VALUE;

    private final Twins twins;

    StateCallEdges(Check check, Document document) {
        super(check, document);
        twins = new Twins(check, () -> rich(fresh()));
    }

    /** One that has been through all: acts, returns, rows that are kept, an image, refusals, bytes on the tape. */
    static Run rich(Run x) {
        x.told("hill;");
        x.with(SMALL);
        x.call("firs", 1, 3);
        x.call("round", 3);
        x.call("tell", 0, 2);
        x.call("tell", 1, 3);
        x.call("floor", 0, 1);
        x.call("image");
        x.call("years", 2);
        x.call("sell", 0, 2);
        x.call("tell", 1, 4);
        x.call("tell", 1, 100);
        x.call("years", 0);
        x.told("fog;");
        x.put("tax 1;");
        return x;
    }

    @Override
    void all() {
        text();
        shown();
        acts();
        moreActs();
        images();
    }

    private void text() {
        under("Promise 1");
        of("`HorizonDues()`: A LAND as without all.", this::newObject);
        under("Promise 2");
        of("`int feed(int a, int b, int c, int d, int e)`: Twenty bytes come behind the tape, of each number the highest "
            + "first: how many it has", this::twentyBytes);
        of("NONE, and none come, if it would have more than 700.", this::fullTape);
        under("Promise 3");
        of("`int duchy(int n) throws IllegalArgumentException`: The tape's first n bytes (it is empty then) are a DUCHY",
            this::firstBytesOfTheTape);
        of("all anew: 0", this::allAnew);
        of("or the FAULT (all stays).", this::allStays);
        of("ACTS, RETURNS, rows that are kept, the image are gone (STATUS stays).", this::gone);
        of("IllegalArgumentException: the tape has not so many, n below 0 (nothing changes).", this::notSoMany);
        under("Promise 4");
        of("`int fault()`: The place of the latest duchy()'s FAULT; NONE without.", this::latestFault);
    }

    private void shown() {
        under("Promise 5");
        of("`int count(int what) throws NoSuchElementException`: 0 W, 1 H, 2 TREES that stand, 3 HOUSES, 4 LAWS, 5 the LAW in "
            + "force (NONE), 6 the YEAR, 7 its FOG, 8 TAX of all together, 9 ACTS that are kept, 10 RETURNS, 11 bytes of the "
            + "tape, 12 to 14 STATUS 0 to 2.", this::counts);
        of("NoSuchElementException: another what.", () -> twins.each(Check.NO_SUCH, "count", new int[] {0}, 0, -1, 15, MIN, MAX));
        under("Promise 6");
        of("`int cell(int cell, int what) throws NoSuchElementException`: Of a CELL: 0 HEIGHT, 1 how high it stands, 2 its TREE "
            + "(NONE), 3 its HOUSE (NONE), 4 from which HOUSES it is SEEN (bits).", this::cells);
        of("NoSuchElementException: no such CELL (as everywhere), what.", this::noSuchCell);
        under("Promise 7");
        of("`int tree(int tree, int what) throws NoSuchElementException`: Of a TREE: 0 its CELL, 1 how high, 2 TOP.",
            this::trees);
        of("NoSuchElementException: no such TREE (that stands; as everywhere), what.", this::noSuchTree);
        under("Promise 8");
        of("`int house(int house, int what) throws NoSuchElementException`: Of a HOUSE: 0 its CELL, 1 KIND, 2 PURSE, 3 FLOOR, "
            + "4 BARN, 5 views that were SOLD (bits of DIRECTIONS), 6 MILES, 7 TAX by the LAW in force, 8 HOUSES that are SEEN "
            + "from it (bits).", this::houses);
        of("NoSuchElementException: no such HOUSE (as everywhere), what.", this::noSuchHouse);
        under("Promise 9");
        of("`int miles(int house, int direction) throws NoSuchElementException`: MILES in a DIRECTION.", this::miles);
        of("NoSuchElementException: also no such DIRECTION.",
            () -> twins.each(Check.NO_SUCH, "miles", new int[] {0, 0}, 1, -1, 8, MIN, MAX));
        under("Promise 10");
        of("`long seen(int house) throws NoSuchElementException`: What is SEEN from a HOUSE, CELLS as bits.", this::seen);
    }

    private void acts() {
        under("Promise 11");
        of("`int years(int many)`: An ACT: YEARS: the YEAR then.", this::years);
        of("NONE (STATUS 1): not 1 to 20", this::notOneToTwenty);
        of("it would be above 999.", this::above999);
        under("Promise 12");
        of("`int plant(int cell, int top) throws NoSuchElementException`: An ACT: PLANTED, with a TOP (1 to 9)", this::plant);
        of("the TREE's number (the least that none that stands has).", this::leastNumber);
        of("NONE (STATUS 1): no such TOP", this::noSuchTop);
        of("there are 12 that stand", this::twelveStand);
        of("there is something.", this::thereIsSomething);
        under("Promise 13");
        of("`int fell(int tree) throws NoSuchElementException`: An ACT: FELLED: its CELL.", this::fell);
        under("Promise 14");
        of("`int floor(int house, int floor) throws NoSuchElementException`: An ACT: a FLOOR: as it was.", this::floor);
        of("-9 (STATUS 1): not -3 to 3.", this::noSuchFloor);
        under("Promise 15");
        of("`int barn(int house, int barn) throws NoSuchElementException`: An ACT: a BARN: as it was.", this::barn);
        of("NONE (STATUS 1): not 0 to 5.", this::noSuchBarn);
    }

    private void moreActs() {
        under("Promise 16");
        of("`boolean sell(int house, int direction) throws NoSuchElementException`: An ACT: a view is SOLD: true.", this::sell);
        of("False (STATUS 1): it was.", () -> twins.refused(1, 0, "sell", 0, 2));
        of("NoSuchElementException: also no such DIRECTION.",
            () -> twins.each(Check.NO_SUCH, "sell", new int[] {0, 0}, 1, -1, 8, MIN, MAX));
        under("Promise 17");
        of("`boolean obey(int law)`: An ACT: the LAW in force (NONE: none): true.", this::obey);
        of("False (STATUS 1): there is no such one.", this::noSuchLaw);
        under("Promise 18");
        of("`int undo()`: The last ACT is UNDONE: how many are left.", this::undo);
        of("NONE: there is none.", this::nothingToUndo);
    }

    private void images() {
        under("Promise 40");
        of("`void image()`: TREES, PURSES, FLOORS, BARNS, views, the LAW in force, the YEAR, ACTS and RETURNS are kept as an "
            + "image", this::image);
        of("in place of another one.", this::anotherImage);
        under("Promise 41");
        of("`boolean restore()`: They are as the image again: true.", this::restore);
        of("False: there is none.", this::noImage);
    }

    // ---- the text

    private void newObject() {
        Portrait.compare(check, "", Portrait.of(land("")), Portrait.of(fresh()));
        Run x = fresh();
        int[] counts = {8, 8, 0, 0, 0, -1, 0, 9, 0, 0, 0, 0, 0, 0, 0};
        for (int what = 0; what < 15; what++) {
            x.is(counts[what], "count", what);
        }
        x.is(0, "cell", 63, 1);
        x.is(-1, "fault");
        x.is(0, "restore");
        x.is(-1, "undo");
        x.noSuch("fir", 0);
        x.noSuch("stop", 0);
        x.noSuch("tree", 0, 0);
        x.noSuch("house", 0, 0);
    }

    private void twentyBytes() {
        Run x = fresh();
        // tax 1; and blanks: the first byte of all is the first number's highest one.
        x.is(20, "feed", 't' << 24 | 'a' << 16 | 'x' << 8 | ' ', '1' << 24 | ';' << 16 | 0x2020, 0x20202020, 0x20202020,
            0x20202020);
        x.is(40, "feed", 0x20202020, 0x20202020, 0x20202020, 0x20202020, 0x20202000 | '#');
        x.is(1, "duchy", 40);
        x.is(39, "fault");
        // What is below 0 has a byte above 127 first.
        x.is(20, "feed", -1, -1, -1, -1, -1);
        x.is(1, "duchy", 20);
        x.is(0, "fault");
        x.is(20, "feed", 0x20202020, 0x20202020, 0x20202020, 0x20202020, 0x202020ff);
        x.is(1, "duchy", 20);
        x.is(19, "fault");
    }

    private void fullTape() {
        Run x = fresh();
        for (int i = 1; i <= 35; i++) {
            x.is(20 * i, "feed", 0x20202020, 0x20202020, 0x20202020, 0x20202020, 0x20202020);
        }
        x.is(-1, "feed", 0, 0, 0, 0, 0);
        x.is(-1, "feed", 0, 0, 0, 0, 0);
        x.is(700, "count", 11);
        x.is(0, "duchy", 700);
        x.is(0, "count", 11);
        x.is(20, "feed", 0, 0, 0, 0, 0);
        Twins full = new Twins(check, () -> {
            Run y = land(SMALL);
            y.put("x".repeat(681));
            return y;
        });
        full.noTrace(-1, "feed", 0, 0, 0, 0, 0);
    }

    private void firstBytesOfTheTape() {
        Run x = fresh();
        x.is(0, "duchy", 0);
        x.put("tax 1;tax 2;tax 3;");
        x.is(20, "count", 11);
        x.is(0, "duchy", 12);
        x.is(2, "count", 4);
        x.is(0, "count", 11);
        x.illegal("duchy", 1);
        x.put("tax 1;              ");
        x.is(0, "duchy", 20);
        x.is(1, "count", 4);
        x.put("tax 1;");
        x.is(0, "duchy", 0);
        x.is(0, "count", 4);
        x.is(0, "count", 11);
        x.put("tax hill;");
        x.is(3, "duchy", 9);
        x.is(0, "count", 11);
    }

    private void allAnew() {
        Run x = rich(fresh());
        x.is(0, "duchy", 6);
        Run y = fresh();
        y.told("hill;");
        y.told("hill;");
        y.call("years", 0);
        y.with("villa 0 0 0;");
        y.call("tell", 0, 100);
        y.with("tax 1;");
        Portrait.compare(check, "", Portrait.of(y), Portrait.of(x));
        // Nothing is left of what was told ahead of it, one text ago or two.
        String full = "land 3 3;" + "tree 0 0 1 9;tree 1 0 9 9;villa 0 1 9;blind 1 1 8;high 0 0 9;high 2 2 9;fog 1 2;"
            + "tax not 1;tax 2;tax not (3 < 4);";
        for (String next : new String[] {"", "tax 5;", "tree 7 7 1 1;villa 6 6 3;tax 5;", "high 0 0 1;fog 3;"}) {
            Map<String, Long> want = Portrait.withoutImage(land(next));
            Portrait.compare(check, "behind one: ", want, Portrait.withoutImage(land(full).with(next)));
            Portrait.compare(check, "behind two: ", want, Portrait.withoutImage(land(full).with(full).with(next)));
            Portrait.compare(check, "a text between: ", want, Portrait.withoutImage(land(full).with("").with(next)));
        }
        land(Edges.trees(12)).with(Edges.trees(12)).with(Edges.trees(12)).is(11, "tree", 11, 0);
        land(Edges.houses(6)).with(Edges.houses(6)).with(Edges.houses(6)).is(5, "house", 5, 0);
    }

    private void allStays() {
        // "tax 1;" is on the tape, and ends too soon at 5.
        twins.traces(Map.of("fault()", 5L, "count(11)", 0L, "count(12)", 3L), 1, "duchy", 5);
        Twins faulty = new Twins(check, () -> {
            Run x = rich(fresh());
            x.call("duchy", 0);
            x.with(SMALL);
            x.call("years", 1);
            x.put("land 1 1;tree 0 0 1 1;villa 0 0 1;");
            return x;
        });
        faulty.traces(Map.of("fault()", 30L, "count(11)", 0L, "count(12)", 3L), 4, "duchy", 34);
        // Nor does a text that was begun leave anything to the next one, wherever it ended.
        for (String begun : TextEdges.beginnings()) {
            Run x = fresh();
            x.told(begun + "#");
            x.is(0, "count", 4);
            x.with("villa 6 6 3;tree 7 7 1 1;tax 5;tax not 0;tax (7);");
            x.is(5, "compare", 0, 0);
            x.is(1, "compare", 1, 0);
            x.is(7, "compare", 2, 0);
            x.is(63, "tree", 0, 0);
            x.is(54, "house", 0, 0);
            x.is(8, "count", 0);
            x.is(0, "cell", 0, 0);
            x.is(9, "count", 7);
        }
        for (String law : new String[] {"((((((1", "not not not not not not not", "(not (1+2*(3<", "12345"}) {
            Run x = fresh();
            x.told("tax " + law);
            x.with("villa 0 0 0;tax (((((not not not not not not 8)))));tax 1+2*3<7;");
            x.is(1, "compare", 0, 0);
            x.is(0, "compare", 1, 0);
        }
    }

    private void gone() {
        Run x = rich(fresh());
        int[] status = {2, 1, 1};
        x.is(0, "duchy", 0);
        for (int i = 0; i < 3; i++) {
            x.is(status[i], "count", 12 + i);
        }
        x.is(0, "count", 9);
        x.is(-1, "undo");
        x.is(0, "count", 10);
        x.noSuch("fir", 0);
        x.noSuch("stop", 0);
        x.is(0, "restore");
    }

    private void notSoMany() {
        for (int n : new int[] {21, 700, 701, -1, MIN, MAX}) {
            twins.noTrace(Check.ILLEGAL, "duchy", n);
        }
        Twins empty = new Twins(check, () -> land(SMALL));
        empty.noTrace(Check.ILLEGAL, "duchy", 1);
        empty.noTrace(Check.ILLEGAL, "duchy", -1);
    }

    private void latestFault() {
        Run x = fresh();
        x.is(-1, "fault");
        x.told("hill;");
        x.is(0, "fault");
        x.illegal("duchy", 1);
        x.is(0, "fault");
        x.told("fog 1;fog 2;");
        x.is(6, "fault");
        x.told("fog 1;");
        x.is(-1, "fault");
        x.told(" ".repeat(697) + "fog");
        x.is(700, "fault");
        x.call("years", 0);
        x.is(700, "fault");
        x.call("duchy", 0);
        x.is(-1, "fault");
    }

    // ---- what is shown

    private void counts() {
        Run x = rich(fresh());
        // Trees of 5 and 3 hide much: the villa sees 1 down and 1 slant, its right view is sold; the inn sees 1, 1 and 2.
        int[] counts = {4, 2, 2, 2, 2, 0, 2, 3, 2 + 4, 3, 3, 20, 2, 1, 1};
        for (int what = 0; what < 15; what++) {
            x.is(counts[what], "count", what);
        }
        x.call("obey", -1);
        x.is(-1, "count", 5);
        x.call("fell", 0);
        x.is(1, "count", 2);
    }

    private void cells() {
        Run x = land("land 3 1;high 0 0 2;tree 0 0 3 5;villa 1 0 9;high 1 0 4;");
        long[][] want = {{2, 5, 0, -1, 1}, {4, 6, -1, 0, 0}, {0, 0, -1, -1, 1}};
        for (int cell = 0; cell < 3; cell++) {
            for (int what = 0; what < 5; what++) {
                x.is(want[cell][what], "cell", cell, what);
            }
        }
        // All six houses as bits, and a house that does not see itself.
        Run six = land("land 3 3;villa 0 0 0;villa 1 0 0;villa 2 0 0;villa 0 1 0;villa 2 1 0;villa 0 2 0;");
        six.is(63, "cell", 4, 4);
        six.is(2 + 8, "cell", 0, 4);
        Run full = land(trees(12));
        full.is(11, "cell", 11, 2);
        full.is(-1, "cell", 12, 2);
    }

    private void noSuchCell() {
        twins.each(Check.NO_SUCH, "cell", new int[] {0, 0}, 0, -1, 8, MIN, MAX);
        twins.each(Check.NO_SUCH, "cell", new int[] {0, 0}, 1, -1, 5, MIN, MAX);
        twins.each(Check.NO_SUCH, "plant", new int[] {0, 5}, 0, -1, 8, MIN, MAX);
        twins.each(Check.NO_SUCH, "round", new int[] {0}, 0, -1, 8, MIN, MAX);
        twins.each(Check.NO_SUCH, "heights", new int[] {0, 0}, 0, -1, 8, MIN, MAX);
        Run x = land(SMALL);
        x.is(0, "cell", 7, 0);
        x.is(-1, "plant", 7, 5);
        x.is(10, "heights", 7, 0);
        x.is(3, "round", 7);
    }

    private void trees() {
        Run x = land("tree 7 7 1 9;tree 0 0 9 9;");
        int[][] want = {{63, 1, 9}, {0, 9, 9}};
        for (int tree = 0; tree < 2; tree++) {
            for (int what = 0; what < 3; what++) {
                x.is(want[tree][what], "tree", tree, what);
            }
        }
        fullLand();
    }

    /** As many of all as there may be, each unlike the others, so that none may stand where another one does. */
    private void fullLand() {
        StringBuilder text = new StringBuilder("tax kind+1;");
        for (int tree = 0; tree < 12; tree++) {
            text.append("tree ").append(tree % 8).append(' ').append(tree / 8).append(' ').append(1 + tree % 5).append(' ')
                .append(1 + tree % 5 + tree % 4).append(';');
        }
        for (int house = 0; house < 6; house++) {
            text.append(new String[] {"villa ", "inn ", "blind "}[house % 3]).append(house).append(" 7 ").append(11 * house)
                .append(';');
        }
        Run x = land(text.toString());
        fullLandIs(x, 0, false);
        for (int house = 0; house < 6; house++) {
            x.call("floor", house, house - 3);
            x.call("barn", house, 5 - house);
            x.call("sell", house, house);
            x.call("sell", house, 7);
        }
        fullLandIs(x, 0, true);
        x.call("years", 1);
        fullLandIs(x, 1, true);
        for (int left = 24; left >= 0; left--) {
            x.is(left, "undo");
        }
        fullLandIs(x, 0, false);
    }

    private void fullLandIs(Run x, int year, boolean acted) {
        for (int tree = 0; tree < 12; tree++) {
            x.is(tree, "tree", tree, 0);
            x.is(1 + tree % 5 + Math.min(year, tree % 4), "tree", tree, 1);
            x.is(1 + tree % 5 + tree % 4, "tree", tree, 2);
        }
        for (int house = 0; house < 6; house++) {
            x.is(11 * house - year * (house % 3 + 1), "house", house, 2);
            x.is(acted ? house - 3 : 0, "house", house, 3);
            x.is(acted ? 5 - house : 0, "house", house, 4);
            x.is(acted ? 1 << house | 1 << 7 : 0, "house", house, 5);
        }
        x.is(0, "count", 5);
        x.is(year, "count", 6);
    }

    private void noSuchTree() {
        twins.each(Check.NO_SUCH, "tree", new int[] {0, 0}, 0, -1, 2, 11, 12, MIN, MAX);
        twins.each(Check.NO_SUCH, "tree", new int[] {0, 0}, 1, -1, 3, MIN, MAX);
        twins.each(Check.NO_SUCH, "fell", new int[] {0}, 0, -1, 2, 11, 12, MIN, MAX);
        twins.each(Check.NO_SUCH, "felling", new int[] {0}, 0, -1, 2, 11, 12, MIN, MAX);
        Run x = land(trees(12));
        x.is(11, "tree", 11, 0);
        x.noSuch("tree", 12, 0);
        x.is(0, "felling", 11);
        x.is(11, "fell", 11);
        x.noSuch("tree", 11, 0);
        x.noSuch("felling", 11);
        x.noSuch("fell", 11);
    }

    private void houses() {
        Run x = land("land 3 3;villa 0 0 7;inn 2 0 0;blind 1 1 999;tax miles*2;");
        // A corner's 2 to the right, 2 down, and on the slant 1 to the blind one, behind which all is lower.
        long[][] want = {{0, 0, 7, 0, 0, 0, 5, 10, 6}, {2, 1, 0, 0, 0, 0, 5, 10, 5}, {4, 2, 999, 0, 0, 0, 0, 0, 0}};
        for (int house = 0; house < 3; house++) {
            for (int what = 0; what < 9; what++) {
                x.is(want[house][what], "house", house, what);
            }
        }
        // Asked in any order.
        x.is(5, "house", 1, 8);
        x.is(6, "house", 0, 8);
        x.is(0, "house", 2, 8);
        x.is(5, "house", 1, 6);
        x.call("sell", 1, 0);
        x.is(1, "house", 1, 5);
        x.call("sell", 1, 7);
        x.is(129, "house", 1, 5);
        x.is(0, "house", 0, 5);
    }

    private void noSuchHouse() {
        twins.each(Check.NO_SUCH, "house", new int[] {0, 0}, 0, -1, 2, 5, 6, MIN, MAX);
        twins.each(Check.NO_SUCH, "house", new int[] {0, 0}, 1, -1, 9, MIN, MAX);
        for (String call : new String[] {"miles", "floor", "barn", "sell", "spades", "tell"}) {
            twins.each(Check.NO_SUCH, call, new int[] {0, 1}, 0, -1, 2, 5, 6, MIN, MAX);
        }
        twins.each(Check.NO_SUCH, "seen", new int[] {0}, 0, -1, 2, MIN, MAX);
        twins.each(Check.NO_SUCH, "sale", new int[] {0}, 0, -1, 2, MIN, MAX);
        for (int place = 0; place < 2; place++) {
            twins.each(Check.NO_SUCH, "shade", new int[] {0, 1}, place, -1, 2, MIN, MAX);
            twins.each(Check.NO_SUCH, "barns", new int[] {0, 1, 1, 0, 0}, place, -1, 2, MIN, MAX);
        }
        Run six = land(houses(6));
        six.is(5, "house", 5, 0);
        six.noSuch("house", 6, 0);
    }

    private void miles() {
        twins.each(Check.NO_SUCH, "miles", new int[] {0, 0}, 0, -1, 2, MIN, MAX);
        // The views of a house in the land's first column, from the first direction to the last one.
        Run x = land("land 3 4;villa 0 1 0;blind 2 3 0;");
        int[] miles = {1, 1, 2, 2, 2, 0, 0, 0};
        for (int direction = 0; direction < 8; direction++) {
            x.is(miles[direction], "miles", 0, direction);
            x.is(0, "miles", 1, direction);
        }
        x.is(8, "house", 0, 6);
    }

    private void seen() {
        twins.each(Check.NO_SUCH, "seen", new int[] {0}, 0, -1, 2, MIN, MAX);
        // The last cell is the highest bit of all.
        Run x = land("villa 6 7 0;");
        x.call("sell", 0, 0);
        x.call("sell", 0, 1);
        x.call("sell", 0, 6);
        x.call("sell", 0, 7);
        x.is(Long.MIN_VALUE, "seen", 0);
        land("land 1 1;villa 0 0 0;").is(0, "seen", 0);
    }

    // ---- acts

    private void years() {
        Run x = land(SMALL);
        x.is(1, "years", 1);
        x.is(21, "years", 20);
        x.is(2, "count", 9);
        x.is(0, "count", 13);
    }

    private void notOneToTwenty() {
        for (int many : new int[] {0, 21, -1, MIN, MAX}) {
            twins.refused(1, -1, "years", many);
        }
    }

    private Run inYear(int year) {
        Run x = land(SMALL);
        for (int left = year; left > 0; left -= 20) {
            x.call("years", Math.min(20, left));
        }
        return x;
    }

    private void above999() {
        Run x = inYear(979);
        x.is(999, "years", 20);
        x.is(-1, "years", 1);
        x.is(-1, "years", 20);
        x.is(2, "count", 13);
        x.is(40, "count", 9);
        Run y = inYear(980);
        y.is(-1, "years", 20);
        y.is(980, "count", 6);
        y.is(999, "years", 19);
        y.is(39, "undo");
        y.is(980, "count", 6);
    }

    private void plant() {
        Run x = land(SMALL);
        x.is(2, "plant", 4, 1);
        x.is(1, "tree", 2, 2);
        x.is(3, "plant", 5 + 1, 9);
        x.is(9, "tree", 3, 2);
        x.is(1, "tree", 3, 1);
        x.is(6, "tree", 3, 0);
        x.is(2, "count", 9);
        x.is(0, "count", 13);
        // No such cell ahead of no such top.
        x.noSuch("plant", 8, 0);
        x.noSuch("plant", -1, 10);
        x.is(0, "count", 13);
    }

    private void leastNumber() {
        Run none = fresh();
        none.is(0, "plant", 63, 9);
        none.is(1, "plant", 0, 9);
        Run x = land(trees(12));
        x.call("fell", 11);
        x.is(11, "plant", 63, 9);
        x.call("fell", 7);
        x.call("fell", 3);
        x.call("fell", 0);
        x.is(0, "plant", 62, 9);
        x.is(3, "plant", 61, 9);
        x.is(7, "plant", 60, 9);
        x.is(-1, "plant", 59, 9);
    }

    private void noSuchTop() {
        for (int top : new int[] {0, 10, -1, MIN, MAX}) {
            twins.refused(1, -1, "plant", 4, top);
        }
    }

    private void twelveStand() {
        Twins full = new Twins(check, () -> land("land 8 2;villa 0 1 5;" + trees(8)
            + "tree 1 1 1 1;tree 2 1 1 1;tree 3 1 1 1;tree 4 1 1 1;"));
        full.refused(1, -1, "plant", 15, 5);
        Run eleven = land(trees(11));
        eleven.is(11, "plant", 63, 5);
        eleven.is(-1, "plant", 62, 5);
    }

    private void thereIsSomething() {
        twins.refused(1, -1, "plant", 0, 5);
        twins.refused(1, -1, "plant", 7, 5);
        twins.refused(1, -1, "plant", 2, 5);
        twins.refused(1, -1, "plant", 5, 5);
        Run x = land(SMALL);
        x.is(2, "plant", 4, 5);
        x.is(-1, "plant", 4, 5);
        x.call("fell", 2);
        x.is(2, "plant", 4, 5);
    }

    private void fell() {
        Run x = land(SMALL);
        x.is(2, "fell", 0);
        x.is(5, "fell", 1);
        x.is(2, "count", 9);
        x.noSuch("fell", 0);
        x.is(0, "count", 2);
        x.is(1, "undo");
        x.is(5, "tree", 1, 0);
        x.noSuch("tree", 0, 0);
        x.is(0, "count", 13);
        land("tree 0 0 1 1;").is(0, "fell", 0);
        land("tree 7 7 1 1;").is(63, "fell", 0);
    }

    private void floor() {
        Run x = land(SMALL);
        x.is(0, "floor", 0, -3);
        x.is(-3, "floor", 0, 3);
        // As it was already is an act all the same.
        x.is(3, "floor", 0, 3);
        x.is(3, "count", 9);
        x.is(0, "floor", 1, 0);
        x.noSuch("floor", 2, 4);
        x.is(0, "count", 13);
    }

    private void noSuchFloor() {
        for (int floor : new int[] {-4, 4, -9, MIN, MAX}) {
            twins.refused(1, -9, "floor", 0, floor);
        }
    }

    private void barn() {
        Run x = land(SMALL);
        x.is(0, "barn", 0, 5);
        x.is(5, "barn", 0, 0);
        x.is(0, "barn", 0, 0);
        x.is(3, "count", 9);
        x.noSuch("barn", 2, 6);
        x.is(0, "count", 13);
    }

    private void noSuchBarn() {
        for (int barn : new int[] {-1, 6, MIN, MAX}) {
            twins.refused(1, -1, "barn", 0, barn);
        }
    }

    private void sell() {
        Run x = land(SMALL);
        x.is(1, "sell", 0, 0);
        x.is(1, "sell", 0, 7);
        x.is(1, "sell", 1, 0);
        x.is(3, "count", 9);
        x.is(129, "house", 0, 5);
        // No such house, no such direction: both throw, and are refused by that alone.
        x.noSuch("sell", 2, 8);
        x.is(0, "count", 13);
    }

    private void obey() {
        Run x = land(SMALL);
        x.is(1, "obey", 1);
        x.is(1, "obey", 0);
        x.is(1, "obey", 0);
        x.is(1, "obey", -1);
        x.is(4, "count", 9);
        x.is(3, "undo");
        x.is(0, "count", 5);
        fresh().is(1, "obey", -1);
    }

    private void noSuchLaw() {
        for (int law : new int[] {2, -2, 4, MIN, MAX}) {
            twins.refused(1, 0, "obey", law);
        }
        fresh().is(0, "obey", 0);
        Run four = land("tax 1;tax 2;tax 3;tax 4;");
        four.is(1, "obey", 3);
        four.is(0, "obey", 4);
    }

    private void undo() {
        Run x = rich(fresh());
        x.is(2, "undo");
        x.is(0, "house", 0, 5);
        x.is(1, "undo");
        x.is(0, "count", 6);
        x.is(0, "undo");
        x.is(0, "house", 0, 3);
        // Neither returns nor rows nor refusals are undone.
        x.is(3, "count", 10);
        x.is(1, "stop", 0);
        x.is(1, "count", 13);
    }

    private void nothingToUndo() {
        Twins none = new Twins(check, () -> land(SMALL));
        none.noTrace(-1, "undo");
        fresh().is(-1, "undo");
    }

    // ---- the image

    private Run acted() {
        Run x = land(SMALL);
        x.call("years", 1);
        x.call("floor", 0, 2);
        x.call("barn", 1, 4);
        x.call("sell", 1, 6);
        x.call("obey", 1);
        x.call("fell", 0);
        x.call("plant", 4, 6);
        x.call("tell", 0, 2);
        return x;
    }

    private void image() {
        Run x = acted();
        x.call("image");
        for (int i = 0; i < 4; i++) {
            x.call("undo");
        }
        x.call("years", 9);
        x.call("floor", 0, -3);
        x.call("barn", 1, 0);
        x.call("sell", 0, 0);
        x.call("obey", -1);
        x.call("tell", 1, 2);
        x.is(1, "restore");
        Portrait.compare(check, "", Portrait.withoutImage(acted()), Portrait.withoutImage(x));
    }

    private void anotherImage() {
        Run x = land(SMALL);
        x.call("floor", 0, 1);
        x.call("image");
        x.call("floor", 0, 2);
        x.call("image");
        x.call("floor", 0, 3);
        x.is(1, "restore");
        x.is(2, "house", 0, 3);
        x.is(2, "count", 9);
        // What comes behind it does not change the image.
        x.call("barn", 0, 5);
        x.call("tell", 0, 9);
        x.is(1, "restore");
        x.is(0, "house", 0, 4);
        x.is(0, "count", 10);
    }

    private void restore() {
        Run x = land(SMALL);
        x.call("firs", 1, 3);
        x.call("round", 0);
        x.call("image");
        x.call("round", 7);
        long first = x.call("stop", 0);
        x.call("years", 0);
        x.call("tell", 0, 100);
        x.put("fog;");
        x.is(1, "restore");
        x.is(1, "restore");
        // Rows, refusals and the tape are none of the image.
        x.is(first, "stop", 0);
        x.is(1, "count", 13);
        x.is(1, "count", 14);
        x.is(20, "count", 11);
        // It stays over a text with a fault.
        x.is(1, "duchy", 4);
        x.is(1, "restore");
        // Returns as they were, of the same houses.
        Run told = land(SMALL);
        told.call("tell", 0, 4);
        told.call("tell", 1, 99);
        told.is(2, "liars");
        told.call("image");
        told.call("forget");
        told.call("tell", 1, 98);
        told.call("tell", 0, 97);
        told.is(3, "liars");
        told.is(1, "restore");
        told.is(2, "liars");
        told.is(2, "count", 10);
        // Forty acts and six returns, all of them.
        Run full = land(SMALL);
        for (int i = 0; i < 45; i++) {
            full.call("floor", 0, i % 7 - 3);
        }
        for (int i = 0; i < 6; i++) {
            full.call("tell", 0, i);
        }
        full.call("image");
        full.call("forget");
        for (int i = 0; i < 50; i++) {
            full.call("barn", 0, i % 6);
        }
        full.is(1, "restore");
        full.is(6, "count", 10);
        full.is(0, "house", 0, 4);
        for (int left = 39; left >= 0; left--) {
            full.is(left, "undo");
            full.is((left + 4) % 7 - 3, "house", 0, 3);
        }
        full.is(-1, "undo");
    }

    private void noImage() {
        fresh().is(0, "restore");
        Twins none = new Twins(check, () -> {
            Run x = land(SMALL);
            x.call("years", 1);
            x.call("tell", 0, 1);
            return x;
        });
        none.noTrace(0, "restore");
        Run x = land(SMALL);
        x.call("image");
        x.call("duchy", 0);
        x.is(0, "restore");
    }
}

/** Promises 1 and 5 to 41, with answers worked out by hand. */
public final class PromisesTest {
    private static final Check check = new Check();
    private static final long NO_SUCH = Check.NO_SUCH;
    private static final long ILLEGAL = Check.ILLEGAL;
    /** A ridge of 3 between a villa and an inn: each sees 2 cells far, so TAX is 2 * 2 + 2. */
    private static final String RIDGE = "land 5 1;high 2 0 3;villa 0 0 50;inn 4 0 20;fog 4;tax miles*2+far;";

    public static void main(String[] args) {
        newObject();
        counts();
        cells();
        trees();
        houses();
        directions();
        slopes();
        fogs();
        laws();
        values();
        years();
        planting();
        floorsAndBarns();
        selling();
        obeying();
        undoing();
        firs();
        spades();
        fellingAndRuin();
        lawsCompared();
        rounds();
        barns();
        returns();
        heightsAndCheats();
        ruined();
        decades();
        hollows();
        salesAndShades();
        dearest();
        images();
        check.end("PromisesTest");
    }

    private static void counts(String of, HorizonDues x, int... want) {
        for (int what = 0; what < want.length; what++) {
            check.same(of + ": count(" + what + ")", want[what], x.count(what));
        }
    }

    // promise 1
    private static void newObject() {
        HorizonDues x = new HorizonDues();
        check.same("NONE", -1, HorizonDues.NONE);
        counts("new", x, 8, 8, 0, 0, 0, -1, 0, 9, 0, 0, 0, 0, 0, 0, 0);
        for (int cell = 0; cell < 64; cell++) {
            int here = cell;
            check.same("height", 0, x.cell(cell, 0));
            check.same("stands", 0, x.cell(cell, 1));
            check.same("tree", -1, x.cell(here, 2));
            check.same("house", -1, x.cell(here, 3));
            check.same("seen by", 0, x.cell(here, 4));
        }
        check.same("fault", -1, x.fault());
        check.same("undo", -1, x.undo());
        check.same("restore", 0, Check.of(x.restore()));
        check.due("fir", NO_SUCH, () -> x.fir(0));
        check.due("stop", NO_SUCH, () -> x.stop(0));
        check.due("house", NO_SUCH, () -> x.house(0, 0));
        check.due("tree", NO_SUCH, () -> x.tree(0, 0));
    }

    // promise 5
    private static void counts() {
        HorizonDues x = Check.landOf("land 4 2;villa 0 0 9;tree 1 1 2 9;fog 3 1;tax 5;tax 6;");
        counts("told", x, 4, 2, 1, 1, 2, 0, 0, 3, 5, 0, 0, 0, 0, 0, 0);
        x.years(1);
        x.obey(1);
        x.plant(2, 3);
        x.tell(0, 3);
        x.tell(0, 100);
        x.obey(7);
        x.feed(0, 0, 0, 0, 0);
        counts("later", x, 4, 2, 2, 1, 2, 1, 1, 1, 6, 3, 1, 20, 0, 1, 1);
        check.due("count(-1)", NO_SUCH, () -> x.count(-1));
        check.due("count(15)", NO_SUCH, () -> x.count(15));
    }

    // promise 6
    private static void cells() {
        HorizonDues x = Check.landOf("land 3 1;high 0 0 2;tree 0 0 3 5;villa 1 0 9;high 1 0 4;");
        int[][] want = {{2, 5, 0, -1, 1}, {4, 6, -1, 0, 0}, {0, 0, -1, -1, 1}};
        for (int cell = 0; cell < 3; cell++) {
            for (int what = 0; what < 5; what++) {
                check.same("cell(" + cell + ", " + what + ")", want[cell][what], x.cell(cell, what));
            }
        }
        x.barn(0, 5);
        check.same("with a barn", 11, x.cell(1, 1));
        x.fell(0);
        check.same("without its tree", 2, x.cell(0, 1));
        check.same("no tree", -1, x.cell(0, 2));
        check.due("cell(3, 0)", NO_SUCH, () -> x.cell(3, 0));
        check.due("cell(-1, 0)", NO_SUCH, () -> x.cell(-1, 0));
        check.due("cell(0, 5)", NO_SUCH, () -> x.cell(0, 5));
        check.due("cell(0, -1)", NO_SUCH, () -> x.cell(0, -1));
        // A cell's number is W by y and x.
        HorizonDues y = Check.landOf("land 3 4;high 2 1 7;");
        check.same("cell 5", 7, y.cell(5, 0));
        check.due("cell(12, 0)", NO_SUCH, () -> y.cell(12, 0));
    }

    // promise 7
    private static void trees() {
        HorizonDues x = Check.landOf("land 3 3;tree 2 1 3 5;tree 0 2 9 9;");
        int[][] want = {{5, 3, 5}, {6, 9, 9}};
        for (int tree = 0; tree < 2; tree++) {
            for (int what = 0; what < 3; what++) {
                check.same("tree(" + tree + ", " + what + ")", want[tree][what], x.tree(tree, what));
            }
        }
        check.due("tree(2, 0)", NO_SUCH, () -> x.tree(2, 0));
        check.due("tree(-1, 0)", NO_SUCH, () -> x.tree(-1, 0));
        check.due("tree(12, 0)", NO_SUCH, () -> x.tree(12, 0));
        check.due("tree(0, 3)", NO_SUCH, () -> x.tree(0, 3));
        check.due("tree(0, -1)", NO_SUCH, () -> x.tree(0, -1));
        x.fell(0);
        check.due("a felled tree", NO_SUCH, () -> x.tree(0, 0));
        check.same("the other one stays", 6, x.tree(1, 0));
    }

    // promise 8
    private static void houses() {
        HorizonDues x = Check.landOf("land 3 3;villa 0 0 7;inn 2 0 0;blind 1 1 999;");
        int[][] want = {{0, 0, 7, 0, 0, 0, 4, 4, 4}, {2, 1, 0, 0, 0, 0, 4, 4, 4}, {4, 2, 999, 0, 0, 0, 0, 0, 0}};
        // From a corner: 2 to the right (an empty cell, a house), 2 down; the blind one hides the far corner:
        // its top is level with the eye, the corner behind lies below.
        want[0][6] = 2 + 2 + 1;
        want[0][7] = 5;
        want[0][8] = 2 + 4;
        want[1][6] = 2 + 2 + 1;
        want[1][7] = 5;
        want[1][8] = 1 + 4;
        for (int house = 0; house < 3; house++) {
            for (int what = 0; what < 9; what++) {
                check.same("house(" + house + ", " + what + ")", want[house][what], x.house(house, what));
            }
        }
        x.floor(0, -2);
        x.barn(0, 5);
        x.sell(0, 0);
        x.sell(0, 7);
        check.same("floor", -2, x.house(0, 3));
        check.same("barn", 5, x.house(0, 4));
        check.same("sold", 129, x.house(0, 5));
        check.due("house(3, 0)", NO_SUCH, () -> x.house(3, 0));
        check.due("house(-1, 0)", NO_SUCH, () -> x.house(-1, 0));
        check.due("house(0, 9)", NO_SUCH, () -> x.house(0, 9));
        check.due("house(0, -1)", NO_SUCH, () -> x.house(0, -1));
    }

    // promises 9, 10
    private static void directions() {
        int[] beside = {1, 2, 5, 8, 7, 6, 3, 0};
        for (int direction = 0; direction < 8; direction++) {
            HorizonDues x = Check.landOf("land 3 3;villa 1 1 9;");
            for (int other = 0; other < 8; other++) {
                check.same("one mile", 1, x.miles(0, other));
                if (other != direction) {
                    x.sell(0, other);
                    check.same("sold", 0, x.miles(0, other));
                }
            }
            check.same("direction " + direction, 1L << beside[direction], x.seen(0));
            check.same("miles of it", 1, x.miles(0, direction));
        }
        HorizonDues x = Check.landOf("land 8 8;villa 0 0 9;blind 7 7 9;");
        long corner = 0;
        for (int k = 1; k < 8; k++) {
            corner |= 1L << k | 1L << 8 * k | 1L << 9 * k;
        }
        check.same("seen from a corner", corner, x.seen(0));
        check.same("seen of the blind", 0, x.seen(1));
        check.same("miles of the blind", 0, x.miles(1, 7));
        check.due("miles(0, 8)", NO_SUCH, () -> x.miles(0, 8));
        check.due("miles(0, -1)", NO_SUCH, () -> x.miles(0, -1));
        check.due("miles(2, 0)", NO_SUCH, () -> x.miles(2, 0));
        check.due("seen(2)", NO_SUCH, () -> x.seen(2));
        check.due("seen(-1)", NO_SUCH, () -> x.seen(-1));
    }

    private static void slopes() {
        // Slopes -1, -1, -2/3: a like one is hidden, one behind it is not.
        check.same("below", 2 + 8, Check.landOf("land 4 1;villa 0 0 9;high 1 0 1;").seen(0));
        // Slopes 1, 1, 4/3.
        check.same("above", 2 + 8, Check.landOf("land 4 1;villa 0 0 9;high 1 0 3;high 2 0 4;high 3 0 6;").seen(0));
        // Slopes 1, 3/2, 1.
        check.same("last hidden", 2 + 4, Check.landOf("land 4 1;villa 0 0 9;high 1 0 3;high 2 0 5;high 3 0 5;").seen(0));
        // A first cell is seen however high or low.
        check.same("first", 2, Check.landOf("land 4 1;villa 0 0 9;tree 1 0 9 9;high 1 0 9;").seen(0));
        HorizonDues x = Check.landOf("land 3 1;villa 0 0 9;high 1 0 2;");
        // Level with the eye: what lies lower behind is hidden, from a floor more it is (-1, -3/2) hidden still.
        check.same("level", 2, x.seen(0));
        x.floor(0, 3);
        // Slopes -3, -5/2.
        check.same("from above", 6, x.seen(0));
        x.floor(0, -3);
        check.same("from below", 2, x.seen(0));
        x.floor(0, 0);
        x.barn(0, 5);
        check.same("one's own barn lifts nobody", 2, x.seen(0));
    }

    private static void fogs() {
        HorizonDues x = Check.landOf("land 8 1;villa 0 0 99;fog 3 1 9;");
        int[] far = {3, 1, 7, 3};
        for (int year = 0; year < 4; year++) {
            check.same("far in " + year, far[year], x.miles(0, 2));
            check.same("fog in " + year, new int[] {3, 1, 9, 3}[year], x.count(7));
            x.years(1);
        }
        check.same("paid", 99 - 3 - 1 - 7 - 3, x.house(0, 2));
    }

    private static void law(String expr, long want) {
        HorizonDues x = Check.landOf("villa 0 0 0;tax " + expr + ";");
        check.same("tax " + expr, want, x.house(0, 7));
    }

    private static void laws() {
        law("7/2", 3);
        law("10-7/2", 7);
        law("(0-7)/2+10", 7);
        law("5/0", 0);
        law("5/0+1", 1);
        law("2-3", 0);
        law("999", 999);
        law("1000", 999);
        law("0007", 7);
        law("2+3*4", 14);
        law("(2+3)*4", 20);
        law("10-3-2", 5);
        law("10-(3-2)", 9);
        law("100/5/2", 10);
        law("100/5*2", 40);
        law("5*3/2", 7);
        law("5-3+2", 4);
        law("1<2", 1);
        law("2<2", 0);
        law("2<1", 0);
        law("2=2", 1);
        law("2=1", 0);
        law("not 0", 1);
        law("not 5", 0);
        law("not not 5", 1);
        law("not 1<2", 0);
        law("not 1+1", 0);
        law("(not 1)+1", 1);
        law("1 or 0 and 0", 1);
        law("(1 or 0) and 0", 0);
        law("3 and 2", 1);
        law("3 and 0", 0);
        law("0 or 7", 1);
        law("0 or 0", 0);
        law("not 0 and 0", 0);
        law("not (0 and 0)", 1);
        law("1<2+5", 1);
        law("5*(1<2)+6*(2<1)", 5);
        law("1 and 2<1 or 3=3", 1);
        law("0-1 and 1", 1);
        // 2 to the 31st wraps to the least int, and stays so divided by -1.
        law("4096*4096*128", 0);
        law("4096*4096*128-1", 999);
        law("4096*4096*128/(0-1)", 0);
        law("4096*4096*128/(0-1)-1", 999);
        law("4096*4096*256", 0);
        law("4096*4096*256+3", 3);
        law("((((1+1)+1)+1)+1)+1", 6);
    }

    private static void values() {
        // In a fog of 4: 4 to the right, 4 down, 3 down and right to the villa that hides what lies behind it.
        String land = "land 6 5;inn 0 0 0;high 0 0 3;villa 3 3 5;fog 4;";
        HorizonDues none = Check.landOf(land);
        check.same("by none", none.house(0, 6), none.house(0, 7));
        check.same("its law", -1, none.count(5));
        String[] values = {"miles", "far", "high", "kind", "houses", "floor+3", "year+1"};
        int[] want = {11, 4, 3, 1, 1, 3, 1};
        for (int i = 0; i < values.length; i++) {
            HorizonDues x = Check.landOf(land + "tax " + values[i] + ";");
            check.same(values[i], want[i], x.house(0, 7));
        }
        HorizonDues x = Check.landOf(land + "tax year*10+floor;tax kind+houses;");
        x.years(3);
        x.floor(0, 2);
        check.same("year, floor", 32, x.house(0, 7));
        x.sell(0, 3);
        check.same("houses in a sold view", 1, x.compare(1, 1));
        HorizonDues blind = Check.landOf("land 3 1;high 1 0 5;blind 0 0 0;villa 1 0 0;tax miles+far+houses*100+kind;");
        check.same("blind", 2, blind.house(0, 7));
        check.same("sees the blind", 2 + 1 + 100, blind.house(1, 7));
    }

    // promise 11
    private static void years() {
        HorizonDues x = Check.landOf("land 3 1;villa 0 0 5;tree 1 0 1 3;tax 2;");
        check.same("years(1)", 1, x.years(1));
        check.same("purse", 3, x.house(0, 2));
        check.same("tree", 2, x.tree(0, 1));
        check.same("years(20)", 21, x.years(20));
        check.same("purse below 0", 3 - 40, x.house(0, 2));
        check.same("top", 3, x.tree(0, 1));
        check.same("acts", 2, x.count(9));
        check.same("years(0)", -1, x.years(0));
        check.same("years(21)", -1, x.years(21));
        check.same("years(-1)", -1, x.years(-1));
        check.same("years(MAX)", -1, x.years(Integer.MAX_VALUE));
        check.same("refused", 4, x.count(13));
        for (int i = 0; i < 48; i++) {
            x.years(20);
        }
        check.same("year", 981, x.count(6));
        check.same("above 999", -1, x.years(19));
        check.same("999", 999, x.years(18));
        check.same("above", -1, x.years(1));
        check.same("refused then", 6, x.count(13));
        // What would be may lie beyond.
        check.same("dearest beyond", 999, x.dearest(20));
    }

    // promises 12, 13
    private static void planting() {
        HorizonDues x = Check.landOf("land 8 3;tree 0 0 4 4;villa 1 0 9;tree 2 0 5 5;");
        check.same("plant", 2, x.plant(3, 9));
        check.same("high", 1, x.tree(2, 1));
        check.same("top", 9, x.tree(2, 2));
        check.same("its cell", 3, x.tree(2, 0));
        check.same("fell", 0, x.fell(0));
        check.same("two stand", 2, x.count(2));
        check.same("least number", 0, x.plant(0, 1));
        check.same("on a tree", -1, x.plant(2, 5));
        check.same("on a house", -1, x.plant(1, 5));
        check.same("top 0", -1, x.plant(4, 0));
        check.same("top 10", -1, x.plant(4, 10));
        check.same("refused", 4, x.count(13));
        check.due("no cell", NO_SUCH, () -> x.plant(24, 5));
        check.due("no cell ahead of no top", NO_SUCH, () -> x.plant(-1, 0));
        check.due("no tree", NO_SUCH, () -> x.fell(3));
        check.due("no tree", NO_SUCH, () -> x.fell(-1));
        check.due("no tree", NO_SUCH, () -> x.fell(12));
        check.same("refused then", 4, x.count(13));
        for (int cell = 4; cell < 13; cell++) {
            check.same("plant", cell - 1, x.plant(cell, 5));
        }
        check.same("a 13th", -1, x.plant(13, 5));
        check.same("twelve", 12, x.count(2));
        check.same("fell the 6th", 6, x.fell(5));
        check.same("in its place", 5, x.plant(20, 5));
        check.same("acts", 14, x.count(9));
        HorizonDues y = Check.landOf("land 2 1;tree 0 0 1 1;");
        y.fell(0);
        check.due("felled twice", NO_SUCH, () -> y.fell(0));
    }

    // promises 14, 15
    private static void floorsAndBarns() {
        HorizonDues x = Check.landOf("land 2 1;villa 0 0 9;");
        check.same("floor 3", 0, x.floor(0, 3));
        check.same("floor -3", 3, x.floor(0, -3));
        check.same("the same again", -3, x.floor(0, -3));
        check.same("acts", 3, x.count(9));
        check.same("floor 4", -9, x.floor(0, 4));
        check.same("floor -4", -9, x.floor(0, -4));
        check.same("stays", -3, x.house(0, 3));
        check.same("barn 5", 0, x.barn(0, 5));
        check.same("barn 0", 5, x.barn(0, 0));
        check.same("barn 6", -1, x.barn(0, 6));
        check.same("barn -1", -1, x.barn(0, -1));
        check.same("refused", 4, x.count(13));
        check.due("no house", NO_SUCH, () -> x.floor(1, 9));
        check.due("no house", NO_SUCH, () -> x.barn(-1, 9));
        check.same("refused then", 4, x.count(13));
    }

    // promise 16
    private static void selling() {
        HorizonDues x = Check.landOf(RIDGE);
        check.same("sell", 1, Check.of(x.sell(0, 2)));
        check.same("sold", 4, x.house(0, 5));
        check.same("seen", 0, x.seen(0));
        check.same("again", 0, Check.of(x.sell(0, 2)));
        check.same("refused", 1, x.count(13));
        check.due("no direction", NO_SUCH, () -> Check.of(x.sell(0, 8)));
        check.due("no direction", NO_SUCH, () -> Check.of(x.sell(0, -1)));
        check.due("no house", NO_SUCH, () -> Check.of(x.sell(2, 0)));
        check.same("of another one", 1, Check.of(x.sell(1, 2)));
        check.same("acts", 2, x.count(9));
    }

    // promise 17
    private static void obeying() {
        HorizonDues x = Check.landOf("villa 0 0 9;tax 3;tax 4;");
        check.same("obey", 1, Check.of(x.obey(1)));
        check.same("tax", 4, x.house(0, 7));
        check.same("obey none", 1, Check.of(x.obey(-1)));
        check.same("miles", 21, x.house(0, 7));
        check.same("no such law", 0, Check.of(x.obey(2)));
        check.same("no such law", 0, Check.of(x.obey(-2)));
        check.same("refused", 2, x.count(13));
        check.same("in force", -1, x.count(5));
        check.same("undo", 1, x.undo());
        check.same("in force", 1, x.count(5));
        check.same("none without laws", 1, Check.of(new HorizonDues().obey(-1)));
        check.same("no law without laws", 0, Check.of(new HorizonDues().obey(0)));
    }

    // promise 18
    private static void undoing() {
        HorizonDues x = Check.landOf("land 4 1;villa 0 0 50;tree 2 0 3 5;tax 1;tax 2;");
        x.years(4);
        x.fell(0);
        x.plant(1, 2);
        x.floor(0, 1);
        x.barn(0, 2);
        x.sell(0, 2);
        x.obey(1);
        check.same("law", 6, x.undo());
        check.same("law", 0, x.count(5));
        check.same("view", 5, x.undo());
        check.same("view", 0, x.house(0, 5));
        check.same("barn", 4, x.undo());
        check.same("barn", 0, x.house(0, 4));
        check.same("floor", 3, x.undo());
        check.same("floor", 0, x.house(0, 3));
        check.same("planted", 2, x.undo());
        check.same("no tree", 0, x.count(2));
        check.same("felled", 1, x.undo());
        check.same("high", 5, x.tree(0, 1));
        check.same("years", 0, x.undo());
        check.same("high", 3, x.tree(0, 1));
        check.same("purse", 50, x.house(0, 2));
        check.same("year", 0, x.count(6));
        check.same("nothing", -1, x.undo());
        check.same("not refused", 0, x.count(13));
        for (int i = 0; i < 45; i++) {
            x.floor(0, i % 7 - 3);
        }
        check.same("kept", 40, x.count(9));
        for (int left = 39; left >= 0; left--) {
            check.same("undo", left, x.undo());
            check.same("floor then", (left + 4) % 7 - 3, x.house(0, 3));
        }
        check.same("the first five are gone", -1, x.undo());
        check.same("and stay done", 4 % 7 - 3, x.house(0, 3));
    }

    // promises 19, 20
    private static void firs() {
        HorizonDues x = Check.landOf(RIDGE);
        check.same("none needed", 0, x.firs(3, 6));
        check.due("no first", NO_SUCH, () -> x.fir(0));
        check.same("no house told", 0, x.firs(0, 0));
        check.same("one", 1, x.firs(1, 3));
        check.same("which", 1, x.fir(0));
        check.due("no second", NO_SUCH, () -> x.fir(1));
        check.due("fir(-1)", NO_SUCH, () -> x.fir(-1));
        check.same("the other one", 1, x.firs(2, 3));
        check.same("which", 3, x.fir(0));
        check.same("two", 2, x.firs(3, 3));
        check.same("first", 1, x.fir(0));
        check.same("second", 3, x.fir(1));
        check.due("no third", NO_SUCH, () -> x.fir(2));
        check.same("none", -1, x.firs(1, 0));
        check.same("kept", 3, x.fir(1));
        check.due("no such house", ILLEGAL, () -> x.firs(4, 5));
        check.due("bits below 0", ILLEGAL, () -> x.firs(-1, 5));
        check.due("much -1", ILLEGAL, () -> x.firs(1, -1));
        check.due("much 1000", ILLEGAL, () -> x.firs(1, 1000));
        check.same("much 999", 0, x.firs(1, 999));
        check.same("no trees came", 0, x.count(2));
        // A view of 7: a fir next to the house leaves 1, the farther ones leave k; the least cell that does is 2.
        HorizonDues y = Check.landOf("land 8 1;villa 7 0 0;");
        check.same("one", 1, y.firs(1, 5));
        check.same("least cell", 2, y.fir(0));
        // Slopes 7 and 8: a fir of 10 would hide what is 18 high behind it, one of 9 does not.
        check.same("nine high", -1, Check.landOf("land 3 1;villa 0 0 0;high 2 0 9;tree 2 0 9 9;").firs(1, 1));
        // Behind a ridge a fir is seen: by such a law that helps.
        HorizonDues left = Check.landOf("land 3 1;villa 2 0 0;high 1 0 2;tax 9-miles;");
        check.same("one in cell 0", 1, left.firs(1, 7));
        check.same("cell 0", 0, left.fir(0));
        HorizonDues both = Check.landOf("land 5 1;villa 2 0 0;high 1 0 2;high 3 0 2;tax 9-miles;");
        check.same("two at the ends", 2, both.firs(1, 5));
        check.same("cell 0", 0, both.fir(0));
        check.same("cell 4", 4, both.fir(1));
        // Twelve trees stand already; a fir would be one more all the same.
        StringBuilder full = new StringBuilder("villa 0 7 0;");
        for (int i = 0; i < 12; i++) {
            full.append("tree ").append(i % 4 + 4).append(' ').append(i / 4).append(" 1 1;");
        }
        HorizonDues z = Check.landOf(full.toString());
        // 7 up, 7 up and right, 7 to the right: one beside the house takes 6 of them, first that above it.
        check.same("miles", 21, z.house(0, 6));
        check.same("a 13th", 1, z.firs(1, 15));
        check.same("its cell", 48, z.fir(0));
    }

    // promise 21
    private static void spades() {
        HorizonDues x = Check.landOf("land 4 1;villa 0 0 0;high 1 0 1;high 2 0 1;");
        // Eye 2: slopes -1, -1/2, -2/3: 2 miles. Eye 1: 0, 0, -1/3: 1. Eye 3: -2, -1, -1: 2. Eye 5: -4, -2, -5/3: 3.
        check.same("miles", 2, x.house(0, 6));
        check.same("enough", 0, x.spades(0, 2));
        check.same("one", 1, x.spades(0, 1));
        check.same("none", -1, x.spades(0, 0));
        x.floor(0, 3);
        check.same("from 3 up", 0, x.spades(0, 3));
        // Eye 4: -3, -3/2, -4/3: 3.
        check.same("two", 2, x.spades(0, 2));
        check.same("four", 4, x.spades(0, 1));
        check.same("nothing is dug", 3, x.house(0, 3));
        check.due("no house ahead", NO_SUCH, () -> x.spades(1, -1));
        check.due("much -1", ILLEGAL, () -> x.spades(0, -1));
        check.due("much 1000", ILLEGAL, () -> x.spades(0, 1000));
        check.same("much 999", 0, x.spades(0, 999));
        HorizonDues y = Check.landOf("villa 0 0 0;tax floor+3;");
        check.same("down to -3", 3, y.spades(0, 0));
    }

    // promises 22, 23
    private static void fellingAndRuin() {
        // Each tree hides 2 cells behind it of the villa at the left, the second one is hidden by none.
        HorizonDues x = Check.landOf("land 4 2;villa 0 0 2;inn 0 1 99;tree 1 0 5 5;tree 2 1 9 9;tree 3 0 1 1;tax miles;");
        int villa = x.house(0, 7);
        int inn = x.house(1, 7);
        // The villa: right 1 (of 3), down 1, down and right 1. The inn: up 1, up and right 1, right 2 (of 3).
        check.same("villa", 3, villa);
        check.same("inn", 4, inn);
        check.same("felling 0", 2, x.felling(0));
        check.same("felling 1", 1, x.felling(1));
        check.same("felling 2", 0, x.felling(2));
        check.due("no tree", NO_SUCH, () -> x.felling(3));
        check.due("no tree", NO_SUCH, () -> x.felling(-1));
        check.same("the villa's purse is not enough now", 0, x.ruin());
        HorizonDues y = Check.landOf("land 4 2;villa 0 0 3;inn 0 1 4;tree 1 0 5 5;tree 2 1 9 9;tree 3 0 1 1;tax miles;");
        check.same("ruin", 3, y.ruin());
        check.same("all stand", 3, y.count(2));
        HorizonDues z = Check.landOf("land 4 2;villa 0 0 4;inn 0 1 4;tree 1 0 5 5;tree 2 1 9 9;tree 3 0 1 1;tax miles;");
        check.same("one more than its purse", 3, z.ruin());
        z.fell(1);
        check.same("inn pays 5 of 4 now", 1, z.ruin());
        // By a law that asks for less the less is hidden, felling brings less.
        HorizonDues w = Check.landOf("land 4 1;villa 0 0 3;tree 1 0 5 5;tax 9-miles;");
        check.same("less", -2, w.felling(0));
        check.same("no ruin", 0, w.ruin());
    }

    // promises 24, 25
    private static void lawsCompared() {
        HorizonDues x = Check.landOf("land 3 1;villa 0 0 0;inn 2 0 0;tax 5*kind+5;tax 8;tax 3+kind*10;tax 8;");
        int[][] want = {{4, 2}, {15, 10}, {16, 8}, {16, 13}, {16, 8}};
        for (int law = -1; law < 4; law++) {
            check.same("all by " + law, want[law + 1][0], x.compare(law, 0));
            check.same("most by " + law, want[law + 1][1], x.compare(law, 1));
        }
        check.due("no law", NO_SUCH, () -> x.compare(4, 0));
        check.due("no law", NO_SUCH, () -> x.compare(-2, 0));
        check.due("no what", NO_SUCH, () -> x.compare(0, 2));
        check.due("no what", NO_SUCH, () -> x.compare(0, -1));
        check.same("mildest(0)", 1, x.mildest(0));
        check.same("mildest(16)", 1, x.mildest(16));
        check.same("mildest(17)", -1, x.mildest(17));
        check.same("mildest(9999)", -1, x.mildest(9999));
        check.due("mildest(-1)", ILLEGAL, () -> x.mildest(-1));
        check.due("mildest(10000)", ILLEGAL, () -> x.mildest(10000));
        HorizonDues y = Check.landOf("tax 5;tax 6;");
        check.same("none pays", 0, y.compare(0, 0));
        check.same("no most", 0, y.compare(1, 1));
        check.same("the first", 0, y.mildest(0));
        check.same("nobody pays", -1, y.mildest(1));
    }

    // promises 26, 27
    private static void rounds() {
        HorizonDues x = Check.landOf("land 8 8;villa 7 0 0;villa 0 0 0;blind 7 7 0;");
        // From the upper left: 0 to house 1, 7 to house 0, 7 to house 2.
        check.same("round(0)", 14, x.round(0));
        check.same("stop 0", 1, x.stop(0));
        check.same("stop 1", 0, x.stop(1));
        check.same("stop 2", 2, x.stop(2));
        check.due("stop 3", NO_SUCH, () -> x.stop(3));
        check.due("stop -1", NO_SUCH, () -> x.stop(-1));
        check.due("no cell", NO_SUCH, () -> x.round(64));
        check.due("no cell", NO_SUCH, () -> x.round(-1));
        check.same("kept", 1, x.stop(0));
        // From the lower left each is 7 off, and so is each from each: the first row of all.
        check.same("round(56)", 21, x.round(56));
        check.same("stop 0", 0, x.stop(0));
        check.same("stop 1", 1, x.stop(1));
        check.same("stop 2", 2, x.stop(2));
        HorizonDues y = Check.landOf("land 2 2;");
        check.same("no houses", 0, y.round(3));
        check.due("no stop", NO_SUCH, () -> y.stop(0));
        HorizonDues z = Check.landOf("land 8 1;inn 5 0 0;inn 1 0 0;inn 7 0 0;inn 3 0 0;inn 6 0 0;inn 0 0 0;");
        check.same("along a line", 9, z.round(2));
        int[] stops = {1, 5, 3, 0, 4, 2};
        for (int i = 0; i < 6; i++) {
            check.same("stop " + i, stops[i], z.stop(i));
        }
    }

    // promise 28
    private static void barns() {
        HorizonDues x = Check.landOf(RIDGE);
        check.same("all rest for nothing", 4, x.barns(0, 1, 1, 0, 0));
        check.same("first", 0, x.barns(0, 1, 1, 0, 1));
        check.same("none raises for pence", 1, x.barns(1, 0, 5, 1, 0));
        check.same("first", 0, x.barns(1, 0, 5, 99, 1));
        check.same("nothing is raised", 0, x.house(0, 4));
        check.due("no house", NO_SUCH, () -> x.barns(2, 0, 9, 0, 0));
        check.due("no other", NO_SUCH, () -> x.barns(0, -1, 9, 0, 0));
        check.due("no what", NO_SUCH, () -> x.barns(0, 0, 9, 0, 2));
        check.due("no what", NO_SUCH, () -> x.barns(0, 0, 9, 0, -1));
        check.due("both are one", ILLEGAL, () -> x.barns(1, 1, 1, 0, 0));
        check.due("much 0", ILLEGAL, () -> x.barns(0, 1, 0, 0, 0));
        check.due("much 6", ILLEGAL, () -> x.barns(0, 1, 6, 0, 0));
        check.due("pence -1", ILLEGAL, () -> x.barns(0, 1, 1, -1, 0));
        check.due("pence 100", ILLEGAL, () -> x.barns(0, 1, 1, 100, 0));
    }

    // promises 29 to 31
    private static void returns() {
        HorizonDues x = Check.landOf(RIDGE);
        check.same("tell", 1, x.tell(0, 2));
        check.same("no liars", 0, x.liars());
        check.same("tell", 2, x.tell(1, 99));
        check.same("a liar", 2, x.liars());
        check.same("tell", 3, x.tell(0, 0));
        check.same("one return is enough", 3, x.liars());
        check.same("miles -1", -1, x.tell(0, -1));
        check.same("miles 100", -1, x.tell(0, 100));
        check.due("no house", NO_SUCH, () -> x.tell(2, 100));
        check.due("no house", NO_SUCH, () -> x.tell(-1, 0));
        x.tell(0, 1);
        x.tell(0, 1);
        check.same("six", 6, x.tell(0, 1));
        check.same("a seventh", -1, x.tell(0, 1));
        check.due("no house ahead of a seventh", NO_SUCH, () -> x.tell(2, 1));
        check.same("refused", 3, x.count(14));
        check.same("told", 6, x.count(10));
        check.same("no acts", 0, x.count(9));
        x.forget();
        check.same("forgotten", 0, x.count(10));
        check.same("no liars", 0, x.liars());
        check.same("anew", 1, x.tell(1, 4));
        x.floor(1, 3);
        check.same("so it is now", 0, x.liars());
    }

    // promises 32, 33
    private static void heightsAndCheats() {
        HorizonDues x = Check.landOf(RIDGE);
        check.same("all", 10, x.heights(2, 0));
        check.same("least", 0, x.heights(2, 1));
        check.same("no cheat", -1, x.cheat());
        x.tell(0, 2);
        check.same("no liar, no cheat", -1, x.cheat());
        // Both see 2 far while the ridge is level with the eye or higher; at 1 (-1/2) the ends are seen (0): no.
        check.same("how many", 8, x.heights(2, 0));
        check.same("from", 2, x.heights(2, 1));
        x.tell(0, 3);
        check.same("two miles at once", 0, x.heights(2, 0));
        check.same("none", -1, x.heights(2, 1));
        x.forget();
        x.tell(0, 1);
        // Two miles now. Cell 1 hides the ridge (1/2) if it stands at 3 or higher (1): 10 * 1 + 3.
        check.same("cheat", 13, x.cheat());
        x.tell(1, 1);
        // The inn needs cell 3; each cheat mends one liar, so the first one counts.
        check.same("of like ones the least", 13, x.cheat());
        x.forget();
        x.tell(0, 4);
        x.tell(1, 4);
        check.same("one for both", 20, x.cheat());
        check.same("nothing came of it", 3, x.cell(2, 0));
        check.due("no cell", NO_SUCH, () -> x.heights(5, 0));
        check.due("no cell", NO_SUCH, () -> x.heights(-1, 0));
        check.due("no what", NO_SUCH, () -> x.heights(0, 2));
        check.due("no what", NO_SUCH, () -> x.heights(0, -1));
        // 2 high, the eye at 2: a height of 0 to 9 of its own cell; the far end of a bare row is always seen.
        HorizonDues y = Check.landOf("land 3 1;villa 0 0 0;high 1 0 4;");
        y.tell(0, 2);
        // Eye 2 + h: slopes 2 - h, (-2 - h) / 2: more from -h/2 - 1 > 2 - h, from h 7 on.
        check.same("its own cell", 3, y.heights(0, 0));
        check.same("from 7 on", 7, y.heights(0, 1));
        // By the cell of a house nobody cheats: only cell 1 (to 0) or 2 helps.
        check.same("not its own cell", 10, y.cheat());
        HorizonDues z = Check.landOf("land 3 1;villa 2 0 0;high 1 0 2;");
        z.tell(0, 2);
        check.same("cell 0 above the ridge", 3, z.cheat());
        HorizonDues nine = Check.landOf("land 3 1;villa 2 0 0;high 1 0 5;");
        nine.tell(0, 2);
        check.same("by nine alone", 9, nine.cheat());
    }

    // promise 34
    private static void ruined() {
        HorizonDues x = Check.landOf("villa 0 0 10;inn 1 0 99;tax 5*(kind=0);");
        check.same("ten by five", 3, x.ruined());
        x.years(1);
        check.same("a year less", 2, x.ruined());
        x.years(2);
        check.same("now", 0, x.ruined());
        check.same("a purse of 0 is none below", 1, Check.landOf("villa 0 0 0;tax 5;").ruined());
        check.same("the 50th year", 50, Check.landOf("villa 0 0 49;tax 1;").ruined());
        check.same("not the 51st", -1, Check.landOf("villa 0 0 50;tax 1;").ruined());
        check.same("never", -1, Check.landOf("villa 0 0 0;tax 0;").ruined());
        HorizonDues y = Check.landOf("land 3 1;villa 0 0 3;tree 1 0 1 9;fog 1 2;");
        y.ruined();
        check.same("nothing goes by", 0, y.count(6));
        check.same("nothing grows", 1, y.tree(0, 1));
    }

    // promise 35
    private static void decades() {
        HorizonDues x = Check.landOf("land 8 1;villa 0 0 50;inn 7 0 20;tree 3 0 1 9;");
        check.same("no years", 0, x.decades(1, 0, 0));
        check.same("trees now", 1, x.decades(1, 0, 1));
        check.same("least purse now", 20, x.decades(1, 0, 2));
        HorizonDues flat = Check.landOf("land 8 1;villa 0 0 500;tax far;");
        int seed = 7;
        int paid = 0;
        for (int year = 0; year < 40; year++) {
            seed = seed * 1103515245 + 12345;
            seed = seed * 1103515245 + 12345;
            paid += Math.min(7, 1 + (seed >>> 16 & 32767) % 9);
            check.same("paid in " + (year + 1), paid, flat.decades(7, year + 1, 0));
            check.same("purse in " + (year + 1), 500 - paid, flat.decades(7, year + 1, 2));
        }
        // On one cell with a tree every storm strikes it; ahead of the first year none has.
        HorizonDues one = Check.landOf("land 1 1;tree 0 0 1 1;");
        check.same("stands", 1, one.decades(3, 0, 1));
        check.same("falls", 0, one.decades(3, 1, 1));
        check.same("no purse", 0, one.decades(3, 1, 2));
        check.same("it did not", 1, one.count(2));
        // On two cells bit 16 tells, in the first year whether the tree falls.
        HorizonDues two = Check.landOf("land 2 1;tree 1 0 1 1;");
        for (int s = -5; s < 6; s++) {
            int first = s * 1103515245 + 12345;
            check.same("seed " + s, (first >>> 16 & 32767) % 2 == 1 ? 0 : 1, two.decades(s, 1, 1));
        }
        check.due("no what", NO_SUCH, () -> x.decades(1, -1, 3));
        check.due("no what", NO_SUCH, () -> x.decades(1, -1, -1));
        check.due("n -1", ILLEGAL, () -> x.decades(1, -1, 0));
        check.due("n 41", ILLEGAL, () -> x.decades(1, 41, 0));
        check.same("no acts", 0, x.count(9));
    }

    // promise 36
    private static void hollows() {
        HorizonDues x = Check.landOf("land 3 3;tree 0 0 1 1;inn 2 2 0;");
        // From cell 1: 1, 1, 1, 1 and 2 down; from the corners 2, 2 and 2; from the middle more.
        check.same("which", 1, x.hollow(0));
        check.same("how much", 6, x.hollow(1));
        HorizonDues y = Check.landOf("land 2 1;tree 0 0 1 1;villa 1 0 0;");
        check.same("no cell", -1, y.hollow(0));
        check.same("no tax", -1, y.hollow(1));
        HorizonDues z = Check.landOf("land 3 1;high 1 0 4;inn 2 0 7;tax 20-high*5+kind+houses;tax 50;");
        check.same("by its law", 1, z.hollow(0));
        check.same("sees the inn", 1, z.hollow(1));
        z.obey(1);
        check.same("of like ones the least", 0, z.hollow(0));
        check.same("fifty", 50, z.hollow(1));
        check.due("no what", NO_SUCH, () -> z.hollow(2));
        check.due("no what", NO_SUCH, () -> z.hollow(-1));
        // A villa more where there are six already.
        HorizonDues six = Check.landOf("land 7 1;inn 0 0 0;inn 1 0 0;inn 2 0 0;inn 3 0 0;inn 4 0 0;inn 5 0 0;");
        check.same("a seventh", 6, six.hollow(0));
        check.same("sees one", 1, six.hollow(1));
    }

    // promises 37, 38
    private static void salesAndShades() {
        HorizonDues x = Check.landOf("land 4 4;villa 1 1 0;tax miles;");
        // Views: up 1, up right 1, right 2, down right 2, down 2, down left 1, left 1, up left 1.
        check.same("the longest view first", 2, x.sale(0));
        x.sell(0, 2);
        check.same("then", 3, x.sale(0));
        check.same("one act", 1, x.count(9));
        check.same("nothing is sold by asking", 4, x.house(0, 5));
        HorizonDues y = Check.landOf("land 3 1;villa 0 0 0;tax 9-miles;");
        check.same("none", -1, y.sale(0));
        check.same("of a blind one none", -1, Check.landOf("blind 0 0 0;").sale(0));
        check.due("no house", NO_SUCH, () -> y.sale(1));
        check.due("no house", NO_SUCH, () -> y.sale(-1));

        // The inn's top at 2 is level with the eye; a ridge of 4 behind it (2/2) is hidden from a barn of 1 on.
        HorizonDues z = Check.landOf("land 3 1;villa 0 0 0;inn 1 0 0;high 2 0 4;");
        check.same("two miles", 2, z.house(0, 6));
        check.same("shade", 1, z.shade(0, 1));
        z.barn(1, 5);
        check.same("the least of like ones", 1, z.shade(0, 1));
        check.same("nothing is raised by asking", 5, z.house(1, 4));
        check.same("of like ones 0", 0, z.shade(1, 0));
        check.due("no house", NO_SUCH, () -> z.shade(2, 2));
        check.due("no other", NO_SUCH, () -> z.shade(0, -1));
        check.due("both are one", ILLEGAL, () -> z.shade(1, 1));
    }

    // promise 39
    private static void dearest() {
        HorizonDues x = Check.landOf("villa 0 0 0;fog 1 3 2 3;");
        check.same("of one", 0, x.dearest(1));
        check.same("of two", 1, x.dearest(2));
        check.same("of like ones the first", 1, x.dearest(20));
        x.years(2);
        check.same("of years from now on", 2, x.dearest(1));
        check.same("the next", 3, x.dearest(20));
        check.due("no years", ILLEGAL, () -> x.dearest(0));
        check.due("too many", ILLEGAL, () -> x.dearest(21));
        // Level with the eye a ridge hides a tree until it is 3 high, in the third year.
        HorizonDues y = Check.landOf("land 4 1;villa 0 0 0;tree 3 0 1 5;high 1 0 2;");
        check.same("a tree grows", 0, y.dearest(2));
        check.same("above the ridge", 2, y.dearest(3));
        check.same("nothing goes by", 2, x.count(6));
    }

    // promises 40, 41
    private static void images() {
        HorizonDues x = Check.landOf("land 4 1;villa 0 0 50;tree 2 0 3 5;tax 1;tax 2;");
        check.same("none", 0, Check.of(x.restore()));
        x.years(1);
        x.tell(0, 3);
        x.image();
        x.fell(0);
        x.floor(0, 1);
        x.barn(0, 2);
        x.sell(0, 2);
        x.obey(1);
        x.years(7);
        x.tell(0, 4);
        x.round(1);
        x.years(0);
        check.same("restore", 1, Check.of(x.restore()));
        int[] want = {0, 0, 49, 0, 0, 0};
        for (int what = 2; what < 6; what++) {
            check.same("house(0, " + what + ")", want[what], x.house(0, what));
        }
        counts("restored", x, 4, 1, 1, 1, 2, 0, 1, 9, 1, 1, 1, 0, 0, 1, 0);
        check.same("tree", 4, x.tree(0, 1));
        check.same("a round is kept", 0, x.stop(0));
        check.same("undo", 0, x.undo());
        check.same("tree", 3, x.tree(0, 1));
        x.forget();
        check.same("restore again", 1, Check.of(x.restore()));
        check.same("acts", 1, x.count(9));
        check.same("returns", 1, x.count(10));
        x.obey(-1);
        x.image();
        x.undo();
        x.undo();
        check.same("the later one", 1, Check.of(x.restore()));
        check.same("by none", -1, x.count(5));
        check.same("acts", 2, x.count(9));
    }
}

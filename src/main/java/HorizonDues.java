import java.util.NoSuchElementException;

/** A tax on horizon: a land, what its houses see of it, and what they owe for that. */
public final class HorizonDues {
    public static final int NONE = -1;

    private static final int MOST_CELLS = 64;
    private static final int MOST_SIDE = 8;
    private static final int MOST_TREES = 12;
    private static final int MOST_HOUSES = 6;
    private static final int MOST_FOGS = 8;
    private static final int MOST_LAWS = 4;
    private static final int MOST_BYTES = 700;
    private static final int MOST_ACTS = 40;
    private static final int MOST_RETURNS = 6;
    private static final int MOST_FIRS = 2;
    private static final int MOST_HEIGHT = 9;
    private static final int MOST_FOG = 9;
    private static final int MOST_TAX = 999;
    private static final int MOST_PURSE = 999;
    private static final int MOST_YEAR = 999;
    private static final int MOST_YEARS = 20;
    private static final int LOWEST_FLOOR = -3;
    private static final int HIGHEST_FLOOR = 3;
    private static final int MOST_BARN = 5;
    private static final int HOUSE_STANDS = 2;
    private static final int FULL_GROWN = 9;
    private static final int NO_FLOOR = -9;
    private static final int FED_BYTES = 20;

    private static final int VILLA = 0;
    private static final int INN = 1;
    private static final int BLIND = 2;

    private static final int DIRECTIONS = 8;
    private static final int[] STEP_X = {0, 1, 1, 1, 0, -1, -1, -1};
    private static final int[] STEP_Y = {-1, -1, 0, 1, 1, 1, 0, -1};

    // All that an ACT may change stands in one row of numbers: a copy of the row undoes any of them.
    private static final int TREE_CELL = 0;
    private static final int TREE_HIGH = 12;
    private static final int TREE_TOP = 24;
    private static final int PURSE = 36;
    private static final int FLOOR = 42;
    private static final int BARN = 48;
    private static final int SOLD = 54;
    private static final int LAW = 60;
    private static final int YEAR = 61;
    private static final int ROW = 62;

    // What a LAW is made of when it has been read: operators behind what they work on.
    private static final int OPEN = 0;
    private static final int OR = 1;
    private static final int AND = 2;
    private static final int NOT = 3;
    private static final int LESS = 4;
    private static final int SAME = 5;
    private static final int PLUS = 6;
    private static final int MINUS = 7;
    private static final int TIMES = 8;
    private static final int BY = 9;
    private static final int MILES_VALUE = 20;
    private static final int FAR_VALUE = 21;
    private static final int HIGH_VALUE = 22;
    private static final int KIND_VALUE = 23;
    private static final int YEAR_VALUE = 24;
    private static final int HOUSES_VALUE = 25;
    private static final int FLOOR_VALUE = 26;
    private static final int NUMBERS_FROM = 100;

    private Land land;
    private Land draft;
    private final Reader reader;
    private final Scene scene;
    private final Affairs affairs;
    private Affairs kept;
    private boolean imaged;
    private final Walk walk;
    private final byte[] tape;
    private int taped;
    private int faultPlace;
    private int refusedTexts;
    private int refusedActs;
    private int refusedReturns;
    private final int[] firCells;
    private int firsKept;

    public HorizonDues() {
        land = new Land();
        draft = new Land();
        tape = new byte[MOST_BYTES];
        reader = new Reader(tape, draft);
        scene = new Scene(land);
        affairs = new Affairs();
        walk = new Walk(land);
        firCells = new int[MOST_FIRS];
        affairs.begin(land);
        faultPlace = NONE;
    }

    // ---- the TEXT

    public int feed(int a, int b, int c, int d, int e) {
        if (taped + FED_BYTES > MOST_BYTES) {
            return NONE;
        }
        putBytes(a);
        putBytes(b);
        putBytes(c);
        putBytes(d);
        putBytes(e);
        return taped;
    }

    private void putBytes(int four) {
        for (int shift = 24; shift >= 0 && taped < tape.length; shift -= 8) {
            tape[taped] = (byte) (four >>> shift);
            taped++;
        }
    }

    public int duchy(int n) throws IllegalArgumentException {
        if (n < 0 || n > taped) {
            throw new IllegalArgumentException("the tape has not so many bytes");
        }
        reader.read(n, draft);
        taped = 0;
        if (reader.flaw != 0) {
            faultPlace = reader.place;
            refusedTexts++;
            return reader.flaw;
        }
        Land told = draft;
        draft = land;
        land = told;
        affairs.begin(land);
        imaged = false;
        firsKept = 0;
        walk.stops = 0;
        faultPlace = NONE;
        return 0;
    }

    public int fault() {
        return faultPlace;
    }

    // ---- what there is

    public int count(int what) throws NoSuchElementException {
        switch (what) {
            case 0: return land.wide;
            case 1: return land.deep;
            case 2: return treesStanding(affairs.row);
            case 3: return land.houses;
            case 4: return land.laws;
            case 5: return affairs.row[LAW];
            case 6: return affairs.row[YEAR];
            case 7: return land.fogOf(affairs.row[YEAR]);
            case 8: return present().taxOfAll();
            case 9: return affairs.acts;
            case 10: return affairs.told;
            case 11: return taped;
            case 12: return refusedTexts;
            case 13: return refusedActs;
            case 14: return refusedReturns;
            default: throw new NoSuchElementException("no such what");
        }
    }

    public int cell(int cell, int what) throws NoSuchElementException {
        needCell(cell);
        switch (what) {
            case 0: return land.height[cell];
            case 1: return present().stand[cell];
            case 2: return treeIn(affairs.row, cell);
            case 3: return land.houseIn(cell);
            case 4: return present().housesThatSee(cell);
            default: throw new NoSuchElementException("no such what");
        }
    }

    public int tree(int tree, int what) throws NoSuchElementException {
        needTree(tree);
        switch (what) {
            case 0: return affairs.row[TREE_CELL + tree];
            case 1: return affairs.row[TREE_HIGH + tree];
            case 2: return affairs.row[TREE_TOP + tree];
            default: throw new NoSuchElementException("no such what");
        }
    }

    public int house(int house, int what) throws NoSuchElementException {
        needHouse(house);
        switch (what) {
            case 0: return land.houseCell[house];
            case 1: return land.houseKind[house];
            case 2: return affairs.row[PURSE + house];
            case 3: return affairs.row[FLOOR + house];
            case 4: return affairs.row[BARN + house];
            case 5: return affairs.row[SOLD + house];
            case 6: return present().milesOf(house);
            case 7: return present().taxOf(house);
            case 8: return present().housesSeenFrom(house);
            default: throw new NoSuchElementException("no such what");
        }
    }

    public int miles(int house, int direction) throws NoSuchElementException {
        needHouse(house);
        needDirection(direction);
        present().lookFrom(house);
        return scene.steps[direction];
    }

    public long seen(int house) throws NoSuchElementException {
        needHouse(house);
        present().lookFrom(house);
        return scene.view;
    }

    // ---- ACTS

    public int years(int many) {
        if (many < 1 || many > MOST_YEARS || affairs.row[YEAR] + many > MOST_YEAR) {
            refusedActs++;
            return NONE;
        }
        affairs.remember();
        present();
        for (int i = 0; i < many; i++) {
            scene.passYear();
        }
        System.arraycopy(scene.row, 0, affairs.row, 0, ROW);
        return affairs.row[YEAR];
    }

    public int plant(int cell, int top) throws NoSuchElementException {
        needCell(cell);
        int number = freeNumber(affairs.row);
        boolean taken = treeIn(affairs.row, cell) != NONE || land.houseIn(cell) != NONE;
        if (top < 1 || top > MOST_HEIGHT || number == NONE || taken) {
            refusedActs++;
            return NONE;
        }
        affairs.remember();
        affairs.row[TREE_CELL + number] = cell;
        affairs.row[TREE_HIGH + number] = 1;
        affairs.row[TREE_TOP + number] = top;
        return number;
    }

    public int fell(int tree) throws NoSuchElementException {
        needTree(tree);
        int cell = affairs.row[TREE_CELL + tree];
        affairs.remember();
        affairs.row[TREE_CELL + tree] = NONE;
        return cell;
    }

    public int floor(int house, int floor) throws NoSuchElementException {
        needHouse(house);
        if (floor < LOWEST_FLOOR || floor > HIGHEST_FLOOR) {
            refusedActs++;
            return NO_FLOOR;
        }
        return actOn(FLOOR + house, floor);
    }

    public int barn(int house, int barn) throws NoSuchElementException {
        needHouse(house);
        if (barn < 0 || barn > MOST_BARN) {
            refusedActs++;
            return NONE;
        }
        return actOn(BARN + house, barn);
    }

    public boolean sell(int house, int direction) throws NoSuchElementException {
        needHouse(house);
        needDirection(direction);
        int sold = affairs.row[SOLD + house];
        if (hasBit(sold, direction)) {
            refusedActs++;
            return false;
        }
        actOn(SOLD + house, sold | 1 << direction);
        return true;
    }

    public boolean obey(int law) {
        if (!isLawOrNone(law)) {
            refusedActs++;
            return false;
        }
        actOn(LAW, law);
        return true;
    }

    private int actOn(int place, int value) {
        int was = affairs.row[place];
        affairs.remember();
        affairs.row[place] = value;
        return was;
    }

    public int undo() {
        return affairs.recall() ? affairs.acts : NONE;
    }

    // ---- questions about trees and floors

    public int firs(int houses, int much) throws IllegalArgumentException {
        if ((houses & ~houseBits()) != 0 || !isTax(much)) {
            throw new IllegalArgumentException("no such houses or sum");
        }
        if (present().allWithin(houses, much)) {
            return keepFirs(0, 0, 0);
        }
        // Where none of them looks a fir changes nothing, alone or beside another one.
        long tried = scene.freeCells() & scene.looksOver(houses);
        for (int first = 0; first < MOST_CELLS; first++) {
            if (hasBit(tried, first) && firsHelp(first, NONE, houses, much)) {
                return keepFirs(1, first, 0);
            }
        }
        for (int first = 0; first < MOST_CELLS; first++) {
            for (int second = first + 1; second < MOST_CELLS && hasBit(tried, first); second++) {
                if (hasBit(tried, second) && firsHelp(first, second, houses, much)) {
                    return keepFirs(2, first, second);
                }
            }
        }
        return NONE;
    }

    private int keepFirs(int many, int first, int second) {
        firCells[0] = first;
        firCells[1] = second;
        firsKept = many;
        return many;
    }

    private boolean firsHelp(int first, int second, int houses, int much) {
        scene.raise(first, FULL_GROWN);
        scene.raise(second, FULL_GROWN);
        boolean help = scene.allWithin(houses, much);
        scene.raise(first, -FULL_GROWN);
        scene.raise(second, -FULL_GROWN);
        return help;
    }

    public int fir(int i) throws NoSuchElementException {
        if (i < 0 || i >= firsKept || i >= firCells.length) {
            throw new NoSuchElementException("no such fir is kept");
        }
        return firCells[i];
    }

    public int spades(int house, int much) throws NoSuchElementException, IllegalArgumentException {
        needHouse(house);
        if (!isTax(much)) {
            throw new IllegalArgumentException("no such sum");
        }
        present();
        int floor = scene.row[FLOOR + house];
        for (int lower = floor; lower >= LOWEST_FLOOR; lower--) {
            scene.row[FLOOR + house] = lower;
            if (scene.taxOf(house) <= much) {
                return floor - lower;
            }
        }
        return NONE;
    }

    public int felling(int tree) throws NoSuchElementException {
        needTree(tree);
        int before = present().taxOfAll();
        scene.dropTree(tree);
        return scene.taxOfAll() - before;
    }

    public int ruin() {
        int safe = present().housesThatCanPay();
        int bits = 0;
        for (int tree = 0; tree < MOST_TREES; tree++) {
            if (affairs.row[TREE_CELL + tree] != NONE) {
                present().dropTree(tree);
                if ((safe & ~scene.housesThatCanPay()) != 0) {
                    bits |= 1 << tree;
                }
            }
        }
        return bits;
    }

    // ---- questions about laws, rounds, barns

    public int compare(int law, int what) throws NoSuchElementException {
        if (!isLawOrNone(law)) {
            throw new NoSuchElementException("no such law");
        }
        needWhat(what, 1);
        present();
        return what == 0 ? scene.sumBy(law) : scene.mostBy(law);
    }

    public int mildest(int sum) throws IllegalArgumentException {
        if (sum < 0 || sum > 9999) {
            throw new IllegalArgumentException("no such sum");
        }
        present();
        int best = NONE;
        int least = 0;
        for (int law = 0; law < land.laws; law++) {
            if (scene.sumBy(law) >= sum) {
                int most = scene.mostBy(law);
                if (best == NONE || most < least) {
                    best = law;
                    least = most;
                }
            }
        }
        return best;
    }

    public int round(int cell) throws NoSuchElementException {
        needCell(cell);
        return walk.find(land, cell);
    }

    public int stop(int i) throws NoSuchElementException {
        if (i < 0 || i >= walk.stops || i >= walk.best.length) {
            throw new NoSuchElementException("no such stop is kept");
        }
        return walk.best[i];
    }

    public int barns(int house, int other, int much, int pence, int what)
            throws NoSuchElementException, IllegalArgumentException {
        needHouse(house);
        needHouse(other);
        needWhat(what, 1);
        if (house == other || much < 1 || much > MOST_BARN || pence < 0 || pence > 99) {
            throw new IllegalArgumentException("one house, or no such barn or pence");
        }
        int many = 0;
        int first = NONE;
        for (int couple = 3; couple >= 0; couple--) {
            int mine = couple >> 1;
            int theirs = couple & 1;
            boolean rests = restsWith(house, other, much, pence, mine, theirs)
                && restsWith(other, house, much, pence, theirs, mine);
            if (rests) {
                many++;
                first = 10 * mine + theirs;
            }
        }
        return what == 0 ? many : first;
    }

    private boolean restsWith(int house, int other, int much, int pence, int mine, int theirs) {
        int chosen = lossOf(house, other, much, mine, theirs) + mine * pence;
        int instead = lossOf(house, other, much, 1 - mine, theirs) + (1 - mine) * pence;
        return instead >= chosen;
    }

    private int lossOf(int house, int other, int much, int mine, int theirs) {
        present();
        scene.raise(land.houseCell[house], mine * much);
        scene.raise(land.houseCell[other], theirs * much);
        return scene.taxOf(house);
    }

    // ---- RETURNS

    public int tell(int house, int miles) throws NoSuchElementException {
        needHouse(house);
        if (miles < 0 || miles > 99 || !affairs.write(house, miles)) {
            refusedReturns++;
            return NONE;
        }
        return affairs.told;
    }

    public void forget() {
        affairs.told = 0;
    }

    public int liars() {
        return present().housesThatLie(affairs);
    }

    public int heights(int cell, int what) throws NoSuchElementException {
        needCell(cell);
        needWhat(what, 1);
        present();
        int many = 0;
        int least = NONE;
        for (int height = MOST_HEIGHT; height >= 0; height--) {
            scene.reshape(cell, height);
            if (scene.housesThatLie(affairs) == 0) {
                many++;
                least = height;
            }
        }
        return what == 0 ? many : least;
    }

    public int cheat() {
        int liars = present().housesThatLie(affairs);
        // Only what a liar looks over can make him honest.
        long tried = scene.looksOver(liars);
        int fewest = Integer.bitCount(liars);
        int best = NONE;
        for (int cell = 0; cell < land.cells(); cell++) {
            boolean tries = hasBit(tried, cell) && land.houseIn(cell) == NONE;
            int was = scene.height[cell];
            for (int height = 0; height <= MOST_HEIGHT && tries; height++) {
                scene.reshape(cell, height);
                int lying = Integer.bitCount(scene.housesThatLie(affairs));
                if (lying < fewest) {
                    fewest = lying;
                    best = 10 * cell + height;
                }
            }
            scene.reshape(cell, was);
        }
        return best;
    }

    // ---- years to come, and what would be

    public int ruined() {
        present();
        for (int years = 0; years <= 50; years++) {
            if (scene.leastPurse() < 0) {
                return years;
            }
            scene.passYear();
        }
        return NONE;
    }

    public int decades(int seed, int n, int what) throws NoSuchElementException, IllegalArgumentException {
        needWhat(what, 2);
        if (n < 0 || n > 40) {
            throw new IllegalArgumentException("no such number of years");
        }
        present();
        int state = seed;
        int paid = 0;
        for (int i = 0; i < n; i++) {
            state = nextSeed(state);
            int struck = treeIn(scene.row, draw(state, land.cells()));
            if (struck != NONE) {
                scene.dropTree(struck);
            }
            state = nextSeed(state);
            scene.fog = draw(state, MOST_FOG) + 1;
            paid += scene.passYear();
        }
        if (what == 0) {
            return paid;
        }
        return what == 1 ? treesStanding(scene.row) : scene.leastPurse();
    }

    private static int nextSeed(int seed) {
        return seed * 1103515245 + 12345;
    }

    private static int draw(int seed, int n) {
        return n > 0 ? (seed >>> 16 & 0x7fff) % n : 0;
    }

    public int hollow(int what) throws NoSuchElementException {
        needWhat(what, 1);
        long free = present().freeCells();
        int best = NONE;
        int least = NONE;
        for (int cell = 0; cell < land.cells(); cell++) {
            if (hasBit(free, cell)) {
                int tax = scene.taxOfVilla(cell);
                if (best == NONE || tax < least) {
                    best = cell;
                    least = tax;
                }
            }
        }
        return what == 0 ? best : least;
    }

    public int sale(int house) throws NoSuchElementException {
        needHouse(house);
        int least = present().taxOf(house);
        int sold = affairs.row[SOLD + house];
        int best = NONE;
        for (int direction = 0; direction < DIRECTIONS; direction++) {
            if (!hasBit(sold, direction)) {
                scene.row[SOLD + house] = sold | 1 << direction;
                int tax = scene.taxOf(house);
                if (tax < least) {
                    least = tax;
                    best = direction;
                }
            }
        }
        return best;
    }

    public int shade(int house, int other) throws NoSuchElementException, IllegalArgumentException {
        needHouse(house);
        needHouse(other);
        if (house == other) {
            throw new IllegalArgumentException("both are one");
        }
        present();
        int cell = land.houseCell[other];
        scene.raise(cell, -scene.row[BARN + other]);
        int best = 0;
        int least = scene.taxOf(house);
        for (int barn = 1; barn <= MOST_BARN; barn++) {
            scene.raise(cell, 1);
            int tax = scene.taxOf(house);
            if (tax < least) {
                best = barn;
                least = tax;
            }
        }
        return best;
    }

    public int dearest(int years) throws IllegalArgumentException {
        if (years < 1 || years > MOST_YEARS) {
            throw new IllegalArgumentException("no such number of years");
        }
        present();
        int best = scene.row[YEAR];
        int most = NONE;
        for (int i = 0; i < years; i++) {
            int year = scene.row[YEAR];
            int paid = scene.passYear();
            if (paid > most) {
                most = paid;
                best = year;
            }
        }
        return best;
    }

    // ---- the image

    public void image() {
        if (kept == null) {
            kept = new Affairs();
        }
        kept.copyOf(affairs);
        imaged = true;
    }

    public boolean restore() {
        if (!imaged || kept == null) {
            return false;
        }
        affairs.copyOf(kept);
        return true;
    }

    // ---- shared by the calls

    /** The scene as it is now; what a question tries out in it stays in it. */
    private Scene present() {
        scene.show(land, affairs.row);
        return scene;
    }

    private void needCell(int cell) {
        if (cell < 0 || cell >= land.cells()) {
            throw new NoSuchElementException("no such cell");
        }
    }

    private void needHouse(int house) {
        if (house < 0 || house >= land.houses) {
            throw new NoSuchElementException("no such house");
        }
    }

    private void needTree(int tree) {
        if (tree < 0 || tree >= MOST_TREES || affairs.row[TREE_CELL + tree] == NONE) {
            throw new NoSuchElementException("no such tree");
        }
    }

    private static void needDirection(int direction) {
        if (direction < 0 || direction >= DIRECTIONS) {
            throw new NoSuchElementException("no such direction");
        }
    }

    private static void needWhat(int what, int most) {
        if (what < 0 || what > most) {
            throw new NoSuchElementException("no such what");
        }
    }

    private boolean isLawOrNone(int law) {
        return law == NONE || law >= 0 && law < land.laws;
    }

    private static boolean isTax(int much) {
        return much >= 0 && much <= MOST_TAX;
    }

    private int houseBits() {
        return (1 << land.houses) - 1;
    }

    private static boolean hasBit(long bits, int i) {
        return (bits >>> i & 1L) != 0L;
    }

    private static int treeIn(int[] row, int cell) {
        for (int tree = 0; tree < MOST_TREES; tree++) {
            if (row[TREE_CELL + tree] == cell) {
                return tree;
            }
        }
        return NONE;
    }

    private static int freeNumber(int[] row) {
        return treeIn(row, NONE);
    }

    private static int treesStanding(int[] row) {
        int many = 0;
        for (int tree = 0; tree < MOST_TREES; tree++) {
            if (row[TREE_CELL + tree] != NONE) {
                many++;
            }
        }
        return many;
    }

    /** What a TEXT tells and no ACT changes, with the row that it begins with. */
    private static final class Land {
        private int wide = MOST_SIDE;
        private int deep = MOST_SIDE;
        private final int[] height = new int[MOST_CELLS];
        private int houses;
        private final int[] houseCell = new int[MOST_HOUSES];
        private final int[] houseKind = new int[MOST_HOUSES];
        private int fogs;
        private final int[] fog = new int[MOST_FOGS];
        private int laws;
        private final int[] lawEnd = new int[MOST_LAWS];
        private final int[] code = new int[MOST_BYTES];
        private final int[] first = new int[ROW];

        Land() {
            clear();
        }

        void clear() {
            wide = MOST_SIDE;
            deep = MOST_SIDE;
            houses = 0;
            fogs = 0;
            laws = 0;
            for (int cell = 0; cell < height.length; cell++) {
                height[cell] = 0;
            }
            for (int i = 0; i < first.length; i++) {
                first[i] = 0;
            }
            for (int tree = 0; tree < MOST_TREES; tree++) {
                first[TREE_CELL + tree] = NONE;
            }
            first[LAW] = NONE;
        }

        int cells() {
            return wide * deep;
        }

        int fogOf(int year) {
            return fogs > 0 && year >= 0 ? fog[year % fogs] : MOST_FOG;
        }

        int houseIn(int cell) {
            for (int house = 0; house < houses; house++) {
                if (houseCell[house] == cell) {
                    return house;
                }
            }
            return NONE;
        }
    }

    /** All that an image keeps: the row as it is, the rows ahead of each ACT, and RETURNS. */
    private static final class Affairs {
        private final int[] row = new int[ROW];
        private final int[] past = new int[MOST_ACTS * ROW];
        private int oldest;
        private int acts;
        private final int[] toldHouse = new int[MOST_RETURNS];
        private final int[] toldMiles = new int[MOST_RETURNS];
        private int told;

        void begin(Land land) {
            System.arraycopy(land.first, 0, row, 0, ROW);
            oldest = 0;
            acts = 0;
            told = 0;
        }

        void remember() {
            if (acts < MOST_ACTS) {
                acts++;
            } else {
                oldest = (oldest + 1) % MOST_ACTS;
            }
            System.arraycopy(row, 0, past, latest(), ROW);
        }

        boolean recall() {
            if (acts == 0) {
                return false;
            }
            System.arraycopy(past, latest(), row, 0, ROW);
            acts--;
            return true;
        }

        private int latest() {
            return (oldest + acts - 1) % MOST_ACTS * ROW;
        }

        boolean write(int house, int miles) {
            if (told >= MOST_RETURNS) {
                return false;
            }
            toldHouse[told] = house;
            toldMiles[told] = miles;
            told++;
            return true;
        }

        void copyOf(Affairs other) {
            System.arraycopy(other.row, 0, row, 0, ROW);
            System.arraycopy(other.past, 0, past, 0, past.length);
            oldest = other.oldest;
            acts = other.acts;
            System.arraycopy(other.toldHouse, 0, toldHouse, 0, MOST_RETURNS);
            System.arraycopy(other.toldMiles, 0, toldMiles, 0, MOST_RETURNS);
            told = other.told;
        }
    }

    /** A land at one time, real or tried out: how high all stands, what is seen, what is owed. */
    private static final class Scene {
        // Within each of 7 EXPRS at most 5 operators with two sides wait for their second one.
        private static final int MOST_STACK = 64;

        private Land land;
        private final int[] row = new int[ROW];
        private final int[] height = new int[MOST_CELLS];
        private final int[] stand = new int[MOST_CELLS];
        private int fog;
        // The latest look: from where, and what was found.
        private int fromCell;
        private int fromKind;
        private int fromFloor;
        private final int[] steps = new int[DIRECTIONS];
        private int allSteps;
        private int farthest;
        private long view;
        private long over;
        private final int[] stack = new int[MOST_STACK];

        Scene(Land first) {
            land = first;
        }

        void show(Land shown, int[] shownRow) {
            land = shown;
            System.arraycopy(shownRow, 0, row, 0, ROW);
            System.arraycopy(shown.height, 0, height, 0, MOST_CELLS);
            System.arraycopy(shown.height, 0, stand, 0, MOST_CELLS);
            for (int tree = 0; tree < MOST_TREES; tree++) {
                raise(row[TREE_CELL + tree], row[TREE_HIGH + tree]);
            }
            for (int house = 0; house < land.houses; house++) {
                raise(land.houseCell[house], HOUSE_STANDS + row[BARN + house]);
            }
            fog = land.fogOf(row[YEAR]);
        }

        /** What stands in a cell is so much higher; nothing is, where there is no cell. */
        void raise(int cell, int more) {
            if (cell >= 0 && cell < stand.length) {
                stand[cell] += more;
            }
        }

        void reshape(int cell, int newHeight) {
            raise(cell, newHeight - height[cell]);
            height[cell] = newHeight;
        }

        void dropTree(int tree) {
            raise(row[TREE_CELL + tree], -row[TREE_HIGH + tree]);
            row[TREE_CELL + tree] = NONE;
        }

        long freeCells() {
            long free = 0L;
            for (int cell = 0; cell < land.cells(); cell++) {
                if (treeIn(row, cell) == NONE && land.houseIn(cell) == NONE) {
                    free |= 1L << cell;
                }
            }
            return free;
        }

        // -- looking

        void lookFrom(int house) {
            look(land.houseCell[house], land.houseKind[house], row[FLOOR + house], row[SOLD + house]);
        }

        private void look(int cell, int kind, int floor, int sold) {
            fromCell = cell;
            fromKind = kind;
            fromFloor = floor;
            allSteps = 0;
            farthest = 0;
            view = 0L;
            over = 0L;
            for (int direction = 0; direction < DIRECTIONS; direction++) {
                boolean shut = kind == BLIND || hasBit(sold, direction);
                int far = shut ? 0 : lookAlong(direction);
                steps[direction] = far;
                allSteps += far;
                farthest = Math.max(farthest, far);
            }
        }

        private int lookAlong(int direction) {
            int wide = land.wide;
            int x = wide > 0 ? fromCell % wide : 0;
            int y = wide > 0 ? fromCell / wide : 0;
            int eye = height[fromCell] + HOUSE_STANDS + fromFloor;
            int far = 0;
            int rise = 0;
            for (int k = 1; k <= fog; k++) {
                x += STEP_X[direction];
                y += STEP_Y[direction];
                if (x < 0 || y < 0 || x >= wide || y >= land.deep) {
                    return far;
                }
                int cell = wide * y + x;
                int higher = stand[cell] - eye;
                over |= 1L << cell;
                // Slopes are compared crosswise, for no fraction is exact; the last one seen is the steepest.
                if (far == 0 || higher * far > rise * k) {
                    far = k;
                    rise = higher;
                    view |= 1L << cell;
                }
            }
            return far;
        }

        /** All cells, seen or hidden, in the views of some houses. */
        long looksOver(int houses) {
            long cells = 0L;
            for (int house = 0; house < land.houses; house++) {
                if (hasBit(houses, house)) {
                    lookFrom(house);
                    cells |= over;
                }
            }
            return cells;
        }

        int milesOf(int house) {
            lookFrom(house);
            return allSteps;
        }

        int housesSeenFrom(int house) {
            lookFrom(house);
            return housesInView();
        }

        private int housesInView() {
            int bits = 0;
            for (int house = 0; house < land.houses; house++) {
                bits |= (int) (view >>> land.houseCell[house] & 1L) << house;
            }
            return bits;
        }

        int housesThatSee(int cell) {
            int bits = 0;
            for (int house = 0; house < land.houses; house++) {
                lookFrom(house);
                if (hasBit(view, cell)) {
                    bits |= 1 << house;
                }
            }
            return bits;
        }

        int housesThatLie(Affairs affairs) {
            int bits = 0;
            for (int i = 0; i < affairs.told; i++) {
                int house = affairs.toldHouse[i];
                if (!hasBit(bits, house) && milesOf(house) != affairs.toldMiles[i]) {
                    bits |= 1 << house;
                }
            }
            return bits;
        }

        // -- owing

        int taxOf(int house) {
            lookFrom(house);
            return taxBy(row[LAW]);
        }

        int taxOfVilla(int cell) {
            look(cell, VILLA, 0, 0);
            return taxBy(row[LAW]);
        }

        int taxOfAll() {
            return sumBy(row[LAW]);
        }

        int sumBy(int law) {
            int sum = 0;
            for (int house = 0; house < land.houses; house++) {
                lookFrom(house);
                sum += taxBy(law);
            }
            return sum;
        }

        int mostBy(int law) {
            int most = 0;
            for (int house = 0; house < land.houses; house++) {
                lookFrom(house);
                most = Math.max(most, taxBy(law));
            }
            return most;
        }

        boolean allWithin(int houses, int much) {
            for (int house = 0; house < land.houses; house++) {
                if (hasBit(houses, house) && taxOf(house) > much) {
                    return false;
                }
            }
            return true;
        }

        int housesThatCanPay() {
            int bits = 0;
            for (int house = 0; house < land.houses; house++) {
                if (taxOf(house) <= row[PURSE + house]) {
                    bits |= 1 << house;
                }
            }
            return bits;
        }

        int leastPurse() {
            int least = land.houses > 0 ? row[PURSE] : 0;
            for (int house = 1; house < land.houses; house++) {
                least = Math.min(least, row[PURSE + house]);
            }
            return least;
        }

        int passYear() {
            int paid = 0;
            for (int house = 0; house < land.houses; house++) {
                int tax = taxOf(house);
                row[PURSE + house] -= tax;
                paid += tax;
            }
            for (int tree = 0; tree < MOST_TREES; tree++) {
                if (row[TREE_CELL + tree] != NONE && row[TREE_HIGH + tree] < row[TREE_TOP + tree]) {
                    row[TREE_HIGH + tree]++;
                    raise(row[TREE_CELL + tree], 1);
                }
            }
            row[YEAR]++;
            fog = land.fogOf(row[YEAR]);
            return paid;
        }

        /** TAX of the one who looked last. */
        private int taxBy(int law) {
            if (law < 0 || law >= land.laws) {
                return allSteps;
            }
            int top = 0;
            int end = Math.min(land.lawEnd[law], land.code.length);
            for (int i = law == 0 ? 0 : land.lawEnd[law - 1]; i < end; i++) {
                int code = land.code[i];
                if (code >= MILES_VALUE && top < stack.length) {
                    stack[top] = code >= NUMBERS_FROM ? code - NUMBERS_FROM : valueOf(code);
                    top++;
                } else if (code == NOT && top >= 1) {
                    stack[top - 1] = stack[top - 1] == 0 ? 1 : 0;
                } else if (code < MILES_VALUE && top >= 2) {
                    top--;
                    stack[top - 1] = together(code, stack[top - 1], stack[top]);
                }
            }
            return top > 0 ? Math.max(0, Math.min(MOST_TAX, stack[0])) : 0;
        }

        private int valueOf(int code) {
            switch (code) {
                case MILES_VALUE: return allSteps;
                case FAR_VALUE: return farthest;
                case HIGH_VALUE: return height[fromCell];
                case KIND_VALUE: return fromKind;
                case YEAR_VALUE: return row[YEAR];
                case HOUSES_VALUE: return Integer.bitCount(housesInView());
                default: return fromFloor;
            }
        }

        private static int together(int operator, int a, int b) {
            switch (operator) {
                case OR: return a != 0 || b != 0 ? 1 : 0;
                case AND: return a != 0 && b != 0 ? 1 : 0;
                case LESS: return a < b ? 1 : 0;
                case SAME: return a == b ? 1 : 0;
                case PLUS: return a + b;
                case MINUS: return a - b;
                case TIMES: return a * b;
                default: return b == 0 ? 0 : a / b;
            }
        }
    }

    /** The shortest way from a cell to all houses; rows are tried in their order, so the first of like ones stays. */
    private static final class Walk {
        private static final int MORE_THAN_ANY = 1000;

        private Land land;
        private final int[] best = new int[MOST_HOUSES];
        private final int[] trial = new int[MOST_HOUSES];
        private int stops;
        private int fewest;

        Walk(Land first) {
            land = first;
        }

        int find(Land walked, int cell) {
            land = walked;
            fewest = MORE_THAN_ANY;
            stops = walked.houses;
            goOn(cell, 0, 0, 0);
            return fewest;
        }

        private void goOn(int cell, int steps, int visited, int depth) {
            if (steps >= fewest || depth > MOST_HOUSES) {
                return;
            }
            if (depth == land.houses) {
                fewest = steps;
                System.arraycopy(trial, 0, best, 0, MOST_HOUSES);
                return;
            }
            for (int house = 0; house < land.houses; house++) {
                if (!hasBit(visited, house)) {
                    int there = land.houseCell[house];
                    trial[depth] = house;
                    goOn(there, steps + stepsBetween(cell, there), visited | 1 << house, depth + 1);
                }
            }
        }

        private int stepsBetween(int a, int b) {
            int wide = land.wide;
            if (wide < 1) {
                return 0;
            }
            return Math.max(Math.abs(a % wide - b % wide), Math.abs(a / wide - b / wide));
        }
    }

    /** Reads a TEXT into a land, token by token, up to the first FAULT. */
    private static final class Reader {
        private static final int END = 0;
        private static final int WORD = 1;
        private static final int NUMBER = 2;
        private static final int STRANGE = 3;
        private static final int MOST_DIGITS = 4;
        private static final int TOO_LONG = 10000;

        // What stands next within a LAW.
        private static final int EXPR = 0;
        private static final int TERM = 1;
        private static final int PART = 2;
        private static final int BEHIND = 3;
        private static final int CLOSED = 4;
        private static final int MOST_WITHIN = 6;
        private static final int MOST_NOTS = 6;
        private static final int LEAST_RANK = 1;
        private static final int TEST_RANK = 4;
        // Within each of 7 EXPRS at most 12 wait: or, and, 6 times not, a test, a sum, a product, a parenthesis.
        private static final int MOST_WAITING = 128;

        private static final int CANNOT_STAND = 1;
        private static final int TOO_MUCH = 2;
        private static final int NO_VALUE = 3;
        private static final int TAKEN = 4;
        private static final int SECOND_FOG = 5;

        private final byte[] text;
        private int length;
        private int start;
        private int end;
        private int kind;
        private int number;
        private int flaw;
        private int place;
        private Land land;
        private int trees;
        private long heightsTold;
        private long taken;
        private final int[] waiting = new int[MOST_WAITING];
        private int waits;
        private int codes;
        private int within;
        private int nots;

        Reader(byte[] tape, Land first) {
            text = tape;
            land = first;
        }

        void read(int bytes, Land draft) {
            length = Math.min(bytes, text.length);
            end = 0;
            flaw = 0;
            place = NONE;
            land = draft;
            trees = 0;
            heightsTold = 0L;
            taken = 0L;
            codes = 0;
            land.clear();
            take();
            if (isWord("land")) {
                readSize();
            }
            for (int i = 0; i <= length && flaw == 0 && kind != END; i++) {
                readLine();
            }
            land.first[LAW] = land.laws > 0 ? 0 : NONE;
        }

        private void refuse(int found) {
            if (flaw == 0) {
                flaw = found;
                place = start;
            }
        }

        // -- tokens

        private void take() {
            start = end;
            while (start < length && (text[start] == ' ' || text[start] == '\n')) {
                start++;
            }
            end = start;
            if (start >= length) {
                kind = END;
            } else if (isLetter(text[start])) {
                kind = WORD;
                while (end < length && isLetter(text[end])) {
                    end++;
                }
            } else if (isDigit(text[start])) {
                kind = NUMBER;
                number = 0;
                while (end < length && isDigit(text[end])) {
                    number = end - start < MOST_DIGITS ? 10 * number + text[end] - '0' : TOO_LONG;
                    end++;
                }
            } else {
                kind = isSign(text[start]) ? text[start] : STRANGE;
                end = start + 1;
            }
        }

        private static boolean isLetter(int b) {
            return b >= 'a' && b <= 'z';
        }

        private static boolean isDigit(int b) {
            return b >= '0' && b <= '9';
        }

        private static boolean isSign(int b) {
            return b == ';' || b == '(' || b == ')' || b == '+' || b == '-' || b == '*' || b == '/'
                || b == '<' || b == '=';
        }

        private boolean isWord(String word) {
            if (kind != WORD || end - start != word.length() || end > text.length) {
                return false;
            }
            for (int i = 0; i < word.length(); i++) {
                if (text[start + i] != word.charAt(i)) {
                    return false;
                }
            }
            return true;
        }

        /** The number at hand; the least one, so that it may be used as an index, if it is refused. */
        private int numberHere(int least, int most) {
            if (kind != NUMBER) {
                refuse(CANNOT_STAND);
            } else if (number < least || number > most) {
                refuse(TOO_MUCH);
            }
            return flaw == 0 ? number : least;
        }

        private int takenNumber(int least, int most) {
            int here = numberHere(least, most);
            take();
            return here;
        }

        private int takenCell(long used) {
            int x = numberHere(0, land.wide - 1);
            take();
            int y = numberHere(0, land.deep - 1);
            int cell = land.wide * y + x;
            if (hasBit(used, cell)) {
                refuse(TAKEN);
            }
            take();
            return cell;
        }

        private void takeEndOfLine() {
            if (kind != ';') {
                refuse(CANNOT_STAND);
            }
            take();
        }

        // -- lines

        private void readSize() {
            take();
            int wide = takenNumber(1, MOST_SIDE);
            int deep = takenNumber(1, MOST_SIDE);
            takeEndOfLine();
            land.wide = wide;
            land.deep = deep;
        }

        private void readLine() {
            if (isWord("high")) {
                readHeight();
            } else if (isWord("tree")) {
                readTree();
            } else if (isWord("villa")) {
                readHouse(VILLA);
            } else if (isWord("inn")) {
                readHouse(INN);
            } else if (isWord("blind")) {
                readHouse(BLIND);
            } else if (isWord("fog")) {
                readFogs();
            } else if (isWord("tax")) {
                readLaw();
            } else {
                refuse(CANNOT_STAND);
            }
        }

        private void readHeight() {
            take();
            int cell = takenCell(heightsTold);
            int height = takenNumber(0, MOST_HEIGHT);
            takeEndOfLine();
            heightsTold |= 1L << cell;
            land.height[cell] = height;
        }

        private void readTree() {
            if (trees >= MOST_TREES) {
                refuse(TOO_MUCH);
                return;
            }
            take();
            int cell = takenCell(taken);
            int high = takenNumber(1, MOST_HEIGHT);
            int top = takenNumber(high, MOST_HEIGHT);
            takeEndOfLine();
            taken |= 1L << cell;
            land.first[TREE_CELL + trees] = cell;
            land.first[TREE_HIGH + trees] = high;
            land.first[TREE_TOP + trees] = top;
            trees++;
        }

        private void readHouse(int houseKind) {
            int house = land.houses;
            if (house >= MOST_HOUSES) {
                refuse(TOO_MUCH);
                return;
            }
            take();
            int cell = takenCell(taken);
            int purse = takenNumber(0, MOST_PURSE);
            takeEndOfLine();
            taken |= 1L << cell;
            land.houseCell[house] = cell;
            land.houseKind[house] = houseKind;
            land.first[PURSE + house] = purse;
            land.houses = house + 1;
        }

        private void readFogs() {
            if (land.fogs > 0) {
                refuse(SECOND_FOG);
                return;
            }
            take();
            land.fog[0] = takenNumber(1, MOST_FOG);
            land.fogs = 1;
            for (int i = 1; i <= MOST_FOGS && kind == NUMBER; i++) {
                if (i == MOST_FOGS) {
                    refuse(TOO_MUCH);
                    return;
                }
                land.fog[i] = takenNumber(1, MOST_FOG);
                land.fogs = i + 1;
            }
            takeEndOfLine();
        }

        // -- laws: operators wait until those that bind less or like them come behind

        private void readLaw() {
            if (land.laws >= MOST_LAWS) {
                refuse(TOO_MUCH);
                return;
            }
            take();
            waits = 0;
            within = 0;
            nots = 0;
            int next = EXPR;
            for (int i = 0; i <= length && flaw == 0 && next != CLOSED; i++) {
                nots = isWord("not") ? nots + 1 : 0;
                next = next == BEHIND ? readBehind() : readPart(next);
                take();
            }
            land.lawEnd[land.laws] = codes;
            land.laws++;
        }

        private int readPart(int where) {
            boolean begins = kind == NUMBER || kind == WORD || kind == '(';
            if (!begins) {
                refuse(CANNOT_STAND);
                return CLOSED;
            }
            if (where == EXPR && within >= MOST_WITHIN || nots > MOST_NOTS && where != PART) {
                refuse(TOO_MUCH);
                return CLOSED;
            }
            if (kind == '(') {
                within++;
                makeWait(OPEN);
                return EXPR;
            }
            if (kind == NUMBER) {
                put(NUMBERS_FROM + numberHere(0, TOO_LONG - 1));
                return BEHIND;
            }
            if (nots > 0 && where != PART) {
                makeWait(NOT);
                return TERM;
            }
            int value = valueHere();
            if (value == NONE) {
                refuse(NO_VALUE);
                return CLOSED;
            }
            put(value);
            return BEHIND;
        }

        private int readBehind() {
            if (kind == ')' && within > 0) {
                settle(LEAST_RANK);
                waits = Math.max(0, waits - 1);
                within--;
                return BEHIND;
            }
            if (kind == ';' && within == 0) {
                settle(LEAST_RANK);
                return CLOSED;
            }
            int operator = operatorHere();
            if (operator == NONE) {
                refuse(CANNOT_STAND);
                return CLOSED;
            }
            int rank = rankOf(operator);
            settle(rank == TEST_RANK ? rank + 1 : rank);
            // A test is no SUM, so no second one may stand beside it.
            if (rank == TEST_RANK && waits > 0 && rankOf(waiting[waits - 1]) == TEST_RANK) {
                refuse(CANNOT_STAND);
            }
            makeWait(operator);
            return operator == OR || operator == AND ? TERM : PART;
        }

        private void makeWait(int operator) {
            if (waits < waiting.length) {
                waiting[waits] = operator;
                waits++;
            }
        }

        private void settle(int rank) {
            while (waits > 0 && waits <= waiting.length && rankOf(waiting[waits - 1]) >= rank) {
                waits--;
                put(waiting[waits]);
            }
        }

        private void put(int code) {
            if (codes < land.code.length) {
                land.code[codes] = code;
                codes++;
            }
        }

        private static int rankOf(int operator) {
            switch (operator) {
                case OR: return LEAST_RANK;
                case AND: return 2;
                case NOT: return 3;
                case LESS:
                case SAME: return TEST_RANK;
                case PLUS:
                case MINUS: return 5;
                case TIMES:
                case BY: return 6;
                default: return 0;
            }
        }

        private int operatorHere() {
            switch (kind) {
                case '<': return LESS;
                case '=': return SAME;
                case '+': return PLUS;
                case '-': return MINUS;
                case '*': return TIMES;
                case '/': return BY;
                default: break;
            }
            if (isWord("or")) {
                return OR;
            }
            return isWord("and") ? AND : NONE;
        }

        private int valueHere() {
            if (isWord("miles")) {
                return MILES_VALUE;
            }
            if (isWord("far")) {
                return FAR_VALUE;
            }
            if (isWord("high")) {
                return HIGH_VALUE;
            }
            if (isWord("kind")) {
                return KIND_VALUE;
            }
            if (isWord("year")) {
                return YEAR_VALUE;
            }
            if (isWord("houses")) {
                return HOUSES_VALUE;
            }
            return isWord("floor") ? FLOOR_VALUE : NONE;
        }
    }
}

import java.util.ArrayDeque;
import java.util.ArrayList;
import java.util.Deque;
import java.util.List;
import java.util.NoSuchElementException;
import java.util.TreeMap;
import java.util.function.IntUnaryOperator;
import java.util.function.ToIntFunction;

/**
 * The document once more, written apart from the class and as near to its words as can be: worlds are copied whole for
 * each question, a cell is compared with every nearer one, laws are trees of functions. Only ModelTest uses it.
 */
final class Model {
    static final class Flaw extends RuntimeException {
        private static final long serialVersionUID = 1L;
        final int fault;
        final int place;

        Flaw(int fault, int place) {
            this.fault = fault;
            this.place = place;
        }
    }

    record Token(char kind, String text, int place) { }

    record Told(int house, int miles) { }

    record Tree(int cell, int high, int top) { }

    static final class House {
        int cell;
        int kind;
        int purse;
        int floor;
        int barn;
        int sold;

        House copy() {
            House h = new House();
            h.cell = cell;
            h.kind = kind;
            h.purse = purse;
            h.floor = floor;
            h.barn = barn;
            h.sold = sold;
            return h;
        }
    }

    /** One who looks, with what a law may ask of him. */
    record Eyes(World world, House house) { }

    static final class World {
        int w = 8;
        int h = 8;
        Integer[] heights = new Integer[64];
        TreeMap<Integer, Tree> trees = new TreeMap<>();
        List<House> houses = new ArrayList<>();
        List<Integer> fogs = new ArrayList<>();
        List<ToIntFunction<Eyes>> laws = new ArrayList<>();
        int law = -1;
        int year = 0;
        Integer drawnFog = null;

        World copy() {
            World c = new World();
            c.w = w;
            c.h = h;
            c.heights = heights.clone();
            c.trees = new TreeMap<>(trees);
            for (House house : houses) {
                c.houses.add(house.copy());
            }
            c.fogs = fogs;
            c.laws = laws;
            c.law = law;
            c.year = year;
            c.drawnFog = drawnFog;
            return c;
        }

        int height(int cell) {
            return heights[cell] == null ? 0 : heights[cell];
        }

        Integer treeIn(int cell) {
            for (var e : trees.entrySet()) {
                if (e.getValue().cell() == cell) {
                    return e.getKey();
                }
            }
            return null;
        }

        int houseIn(int cell) {
            for (int i = 0; i < houses.size(); i++) {
                if (houses.get(i).cell == cell) {
                    return i;
                }
            }
            return -1;
        }

        boolean bare(int cell) {
            return treeIn(cell) == null && houseIn(cell) < 0;
        }

        int stands(int cell) {
            int all = height(cell);
            Integer t = treeIn(cell);
            if (t != null) {
                all += trees.get(t).high();
            }
            int house = houseIn(cell);
            if (house >= 0) {
                all += 2 + houses.get(house).barn;
            }
            return all;
        }

        int fog() {
            if (drawnFog != null) {
                return drawnFog;
            }
            return fogs.isEmpty() ? 9 : fogs.get(year % fogs.size());
        }

        /** Cells seen in a direction, with their steps as the index. */
        List<Integer> stepsSeen(House from, int direction, List<Integer> cells) {
            List<Integer> seen = new ArrayList<>();
            if (from.kind == 2 || (from.sold >> direction & 1) == 1) {
                return seen;
            }
            int[][] d = {{0, -1}, {1, -1}, {1, 0}, {1, 1}, {0, 1}, {-1, 1}, {-1, 0}, {-1, -1}};
            int eye = height(from.cell) + 2 + from.floor;
            for (int k = 1; k <= fog(); k++) {
                int x = from.cell % w + k * d[direction][0];
                int y = from.cell / w + k * d[direction][1];
                if (x < 0 || x >= w || y < 0 || y >= h) {
                    break;
                }
                boolean steeper = true;
                for (int j = 1; j < k; j++) {
                    int nearer = (from.cell / w + j * d[direction][1]) * w + from.cell % w + j * d[direction][0];
                    if ((double) (stands(y * w + x) - eye) / k <= (double) (stands(nearer) - eye) / j + 1e-9) {
                        steeper = false;
                    }
                }
                if (steeper) {
                    seen.add(k);
                    cells.add(y * w + x);
                }
            }
            return seen;
        }

        int miles(House from, int direction) {
            int most = 0;
            for (int k : stepsSeen(from, direction, new ArrayList<>())) {
                most = Math.max(most, k);
            }
            return most;
        }

        int miles(House from) {
            int sum = 0;
            for (int d = 0; d < 8; d++) {
                sum += miles(from, d);
            }
            return sum;
        }

        List<Integer> cellsSeen(House from) {
            List<Integer> cells = new ArrayList<>();
            for (int d = 0; d < 8; d++) {
                stepsSeen(from, d, cells);
            }
            return cells;
        }

        int tax(House house, int byLaw) {
            if (byLaw < 0) {
                return miles(house);
            }
            int given = laws.get(byLaw).applyAsInt(new Eyes(this, house));
            return given < 0 ? 0 : given > 999 ? 999 : given;
        }

        int tax(int house) {
            return tax(houses.get(house), law);
        }

        int total() {
            return houses.stream().mapToInt(x -> tax(x, law)).sum();
        }

        int goYear() {
            int[] due = houses.stream().mapToInt(x -> tax(x, law)).toArray();
            int sum = 0;
            for (int i = 0; i < due.length; i++) {
                houses.get(i).purse -= due[i];
                sum += due[i];
            }
            trees.replaceAll((n, t) -> new Tree(t.cell(), Math.min(t.top(), t.high() + 1), t.top()));
            year++;
            return sum;
        }
    }

    // ---- reading

    static final class Reading {
        final List<Token> tokens = new ArrayList<>();
        final World world = new World();
        int at = 0;

        Reading(int[] bytes, int n) {
            int i = 0;
            while (i < n) {
                int b = bytes[i];
                int j = i;
                if (b == 32 || b == 10) {
                    i++;
                    continue;
                }
                if (b >= 'a' && b <= 'z') {
                    while (j < n && bytes[j] >= 'a' && bytes[j] <= 'z') {
                        j++;
                    }
                    tokens.add(new Token('w', text(bytes, i, j), i));
                } else if (b >= '0' && b <= '9') {
                    while (j < n && bytes[j] >= '0' && bytes[j] <= '9') {
                        j++;
                    }
                    tokens.add(new Token('n', text(bytes, i, j), i));
                } else {
                    j++;
                    tokens.add(new Token(";()+-*/<=".indexOf(b) >= 0 ? 's' : '?', text(bytes, i, j), i));
                }
                i = j;
            }
            tokens.add(new Token('e', "", n));
        }

        static String text(int[] bytes, int from, int to) {
            StringBuilder s = new StringBuilder();
            for (int i = from; i < to; i++) {
                s.append((char) bytes[i]);
            }
            return s.toString();
        }

        Token here() {
            return tokens.get(at);
        }

        boolean is(char kind, String text) {
            return here().kind() == kind && here().text().equals(text);
        }

        Flaw flaw(int fault) {
            return new Flaw(fault, here().place());
        }

        void sign(String s) {
            if (!is('s', s)) {
                throw flaw(1);
            }
            at++;
        }

        int peekNumber(int from, int to) {
            if (here().kind() != 'n') {
                throw flaw(1);
            }
            if (here().text().length() > 4) {
                throw flaw(2);
            }
            int n = Integer.parseInt(here().text());
            if (n < from || n > to) {
                throw flaw(2);
            }
            return n;
        }

        int number(int from, int to) {
            int n = peekNumber(from, to);
            at++;
            return n;
        }

        World duchy() {
            if (is('w', "land")) {
                at++;
                world.w = number(1, 8);
                world.h = number(1, 8);
                sign(";");
            }
            while (here().kind() != 'e') {
                line();
                sign(";");
            }
            world.law = world.laws.isEmpty() ? -1 : 0;
            return world;
        }

        void line() {
            String word = here().kind() == 'w' ? here().text() : "";
            switch (word) {
                case "high" -> {
                    at++;
                    int x = number(0, world.w - 1);
                    int y = peekNumber(0, world.h - 1);
                    if (world.heights[world.w * y + x] != null) {
                        throw flaw(4);
                    }
                    at++;
                    world.heights[world.w * y + x] = number(0, 9);
                }
                case "tree" -> {
                    if (world.trees.size() == 12) {
                        throw flaw(2);
                    }
                    at++;
                    int cell = freeCell();
                    int high = number(1, 9);
                    world.trees.put(world.trees.size(), new Tree(cell, high, number(high, 9)));
                }
                case "villa", "inn", "blind" -> {
                    if (world.houses.size() == 6) {
                        throw flaw(2);
                    }
                    at++;
                    House house = new House();
                    house.kind = List.of("villa", "inn", "blind").indexOf(word);
                    house.cell = freeCell();
                    house.purse = number(0, 999);
                    world.houses.add(house);
                }
                case "fog" -> {
                    if (!world.fogs.isEmpty()) {
                        throw flaw(5);
                    }
                    at++;
                    do {
                        int fog = number(1, 9);
                        if (world.fogs.size() == 8) {
                            at--;
                            throw flaw(2);
                        }
                        world.fogs.add(fog);
                    } while (here().kind() == 'n');
                }
                case "tax" -> {
                    if (world.laws.size() == 4) {
                        throw flaw(2);
                    }
                    at++;
                    world.laws.add(expr(0));
                }
                default -> throw flaw(1);
            }
        }

        int freeCell() {
            int x = number(0, world.w - 1);
            int y = peekNumber(0, world.h - 1);
            if (!world.bare(world.w * y + x)) {
                throw flaw(4);
            }
            at++;
            return world.w * y + x;
        }

        ToIntFunction<Eyes> expr(int within) {
            boolean canStand = here().kind() == 'n' || here().kind() == 'w' || is('s', "(");
            if (within == 6 && canStand) {
                throw flaw(2);
            }
            ToIntFunction<Eyes> left = and(within);
            while (is('w', "or")) {
                at++;
                ToIntFunction<Eyes> a = left;
                ToIntFunction<Eyes> b = and(within);
                left = e -> bit((a.applyAsInt(e) != 0) | (b.applyAsInt(e) != 0));
            }
            return left;
        }

        ToIntFunction<Eyes> and(int within) {
            ToIntFunction<Eyes> left = not(within, 1);
            while (is('w', "and")) {
                at++;
                ToIntFunction<Eyes> a = left;
                ToIntFunction<Eyes> b = not(within, 1);
                left = e -> bit((a.applyAsInt(e) != 0) & (b.applyAsInt(e) != 0));
            }
            return left;
        }

        ToIntFunction<Eyes> not(int within, int nth) {
            if (is('w', "not")) {
                if (nth == 7) {
                    throw flaw(2);
                }
                at++;
                ToIntFunction<Eyes> a = not(within, nth + 1);
                return e -> bit(a.applyAsInt(e) == 0);
            }
            ToIntFunction<Eyes> a = sum(within);
            if (is('s', "<") || is('s', "=")) {
                boolean less = is('s', "<");
                at++;
                ToIntFunction<Eyes> b = sum(within);
                return e -> bit(less ? a.applyAsInt(e) < b.applyAsInt(e) : a.applyAsInt(e) == b.applyAsInt(e));
            }
            return a;
        }

        ToIntFunction<Eyes> sum(int within) {
            ToIntFunction<Eyes> left = product(within);
            while (is('s', "+") || is('s', "-")) {
                boolean plus = is('s', "+");
                at++;
                ToIntFunction<Eyes> a = left;
                ToIntFunction<Eyes> b = product(within);
                left = e -> plus ? a.applyAsInt(e) + b.applyAsInt(e) : a.applyAsInt(e) - b.applyAsInt(e);
            }
            return left;
        }

        ToIntFunction<Eyes> product(int within) {
            ToIntFunction<Eyes> left = part(within);
            while (is('s', "*") || is('s', "/")) {
                boolean times = is('s', "*");
                at++;
                ToIntFunction<Eyes> a = left;
                ToIntFunction<Eyes> b = part(within);
                left = e -> {
                    int p = a.applyAsInt(e);
                    int q = b.applyAsInt(e);
                    return times ? (int) ((long) p * q) : q == 0 ? 0 : (int) ((long) p / q);
                };
            }
            return left;
        }

        ToIntFunction<Eyes> part(int within) {
            if (is('s', "(")) {
                at++;
                ToIntFunction<Eyes> inner = expr(within + 1);
                sign(")");
                return inner;
            }
            if (here().kind() == 'w') {
                ToIntFunction<Eyes> value = value(here().text());
                at++;
                return value;
            }
            int n = number(0, 9999);
            return e -> n;
        }

        ToIntFunction<Eyes> value(String word) {
            return switch (word) {
                case "miles" -> e -> e.world().miles(e.house());
                case "far" -> e -> {
                    int most = 0;
                    for (int d = 0; d < 8; d++) {
                        most = Math.max(most, e.world().miles(e.house(), d));
                    }
                    return most;
                };
                case "high" -> e -> e.world().height(e.house().cell);
                case "kind" -> e -> e.house().kind;
                case "year" -> e -> e.world().year;
                case "houses" -> e -> {
                    List<Integer> seen = e.world().cellsSeen(e.house());
                    return (int) e.world().houses.stream().filter(o -> seen.contains(o.cell)).count();
                };
                case "floor" -> e -> e.house().floor;
                default -> throw flaw(3);
            };
        }

        static int bit(boolean b) {
            return b ? 1 : 0;
        }
    }

    // ---- the face

    private int[] tape = new int[700];
    private int taped = 0;
    private int faultPlace = -1;
    private final int[] status = new int[3];
    private World now = new World();
    private Deque<World> past = new ArrayDeque<>();
    private List<Told> told = new ArrayList<>();
    private List<Integer> firs = new ArrayList<>();
    private List<Integer> stops = new ArrayList<>();
    private World imageNow = null;
    private Deque<World> imagePast = null;
    private List<Told> imageTold = null;

    public int feed(int a, int b, int c, int d, int e) {
        if (taped > 680) {
            return -1;
        }
        for (int n : new int[] {a, b, c, d, e}) {
            for (int i = 3; i >= 0; i--) {
                tape[taped++] = n >> 8 * i & 255;
            }
        }
        return taped;
    }

    public int duchy(int n) {
        illegal(n < 0 || n > taped);
        taped = 0;
        try {
            now = new Reading(tape, n).duchy();
        } catch (Flaw flaw) {
            faultPlace = flaw.place;
            status[0]++;
            return flaw.fault;
        }
        past.clear();
        told.clear();
        firs = List.of();
        stops = List.of();
        imageNow = null;
        faultPlace = -1;
        return 0;
    }

    public int fault() {
        return faultPlace;
    }

    public int count(int what) {
        return switch (what) {
            case 0 -> now.w;
            case 1 -> now.h;
            case 2 -> now.trees.size();
            case 3 -> now.houses.size();
            case 4 -> now.laws.size();
            case 5 -> now.law;
            case 6 -> now.year;
            case 7 -> now.fog();
            case 8 -> now.total();
            case 9 -> past.size();
            case 10 -> told.size();
            case 11 -> taped;
            case 12, 13, 14 -> status[what - 12];
            default -> throw new NoSuchElementException();
        };
    }

    public int cell(int cell, int what) {
        noCell(cell);
        return switch (what) {
            case 0 -> now.height(cell);
            case 1 -> now.stands(cell);
            case 2 -> now.treeIn(cell) == null ? -1 : now.treeIn(cell);
            case 3 -> now.houseIn(cell);
            case 4 -> bits(now.houses.size(), i -> now.cellsSeen(now.houses.get(i)).contains(cell) ? 1 : 0);
            default -> throw new NoSuchElementException();
        };
    }

    public int tree(int tree, int what) {
        Tree t = needed(tree);
        return switch (what) {
            case 0 -> t.cell();
            case 1 -> t.high();
            case 2 -> t.top();
            default -> throw new NoSuchElementException();
        };
    }

    public int house(int house, int what) {
        noHouse(house);
        House h = now.houses.get(house);
        return switch (what) {
            case 0 -> h.cell;
            case 1 -> h.kind;
            case 2 -> h.purse;
            case 3 -> h.floor;
            case 4 -> h.barn;
            case 5 -> h.sold;
            case 6 -> now.miles(h);
            case 7 -> now.tax(house);
            case 8 -> bits(now.houses.size(), i -> now.cellsSeen(h).contains(now.houses.get(i).cell) ? 1 : 0);
            default -> throw new NoSuchElementException();
        };
    }

    public int miles(int house, int direction) {
        noHouse(house);
        none(direction < 0 || direction > 7);
        return now.miles(now.houses.get(house), direction);
    }

    public long seen(int house) {
        noHouse(house);
        long all = 0;
        for (int cell : now.cellsSeen(now.houses.get(house))) {
            all |= 1L << cell;
        }
        return all;
    }

    public int years(int many) {
        if (many < 1 || many > 20 || now.year + many > 999) {
            status[1]++;
            return -1;
        }
        act();
        for (int i = 0; i < many; i++) {
            now.goYear();
        }
        return now.year;
    }

    public int plant(int cell, int top) {
        noCell(cell);
        if (top < 1 || top > 9 || now.trees.size() == 12 || !now.bare(cell)) {
            status[1]++;
            return -1;
        }
        act();
        int n = 0;
        while (now.trees.containsKey(n)) {
            n++;
        }
        now.trees.put(n, new Tree(cell, 1, top));
        return n;
    }

    public int fell(int tree) {
        Tree t = needed(tree);
        act();
        now.trees.remove(tree);
        return t.cell();
    }

    public int floor(int house, int floor) {
        noHouse(house);
        if (floor < -3 || floor > 3) {
            status[1]++;
            return -9;
        }
        act();
        int was = now.houses.get(house).floor;
        now.houses.get(house).floor = floor;
        return was;
    }

    public int barn(int house, int barn) {
        noHouse(house);
        if (barn < 0 || barn > 5) {
            status[1]++;
            return -1;
        }
        act();
        int was = now.houses.get(house).barn;
        now.houses.get(house).barn = barn;
        return was;
    }

    public boolean sell(int house, int direction) {
        noHouse(house);
        none(direction < 0 || direction > 7);
        if ((now.houses.get(house).sold >> direction & 1) == 1) {
            status[1]++;
            return false;
        }
        act();
        now.houses.get(house).sold += 1 << direction;
        return true;
    }

    public boolean obey(int law) {
        if (law < -1 || law >= now.laws.size()) {
            status[1]++;
            return false;
        }
        act();
        now.law = law;
        return true;
    }

    public int undo() {
        if (past.isEmpty()) {
            return -1;
        }
        now = past.removeLast();
        return past.size();
    }

    public int firs(int houses, int much) {
        illegal(houses < 0 || houses >= 1 << now.houses.size() || much < 0 || much > 999);
        if (within(now, houses, much)) {
            firs = List.of();
            return 0;
        }
        for (int a = 0; a < now.w * now.h; a++) {
            if (now.bare(a) && within(grown(now, a), houses, much)) {
                firs = List.of(a);
                return 1;
            }
        }
        for (int a = 0; a < now.w * now.h; a++) {
            for (int b = a + 1; b < now.w * now.h && now.bare(a); b++) {
                if (now.bare(b) && within(grown(grown(now, a), b), houses, much)) {
                    firs = List.of(a, b);
                    return 2;
                }
            }
        }
        return -1;
    }

    private static World grown(World world, int cell) {
        World tried = world.copy();
        tried.trees.put(100 + cell, new Tree(cell, 9, 9));
        return tried;
    }

    private static boolean within(World world, int houses, int much) {
        for (int i = 0; i < world.houses.size(); i++) {
            if ((houses >> i & 1) == 1 && world.tax(i) > much) {
                return false;
            }
        }
        return true;
    }

    public int fir(int i) {
        none(i < 0 || i >= firs.size());
        return firs.get(i);
    }

    public int spades(int house, int much) {
        noHouse(house);
        illegal(much < 0 || much > 999);
        for (int dug = 0; now.houses.get(house).floor - dug >= -3; dug++) {
            World tried = now.copy();
            tried.houses.get(house).floor -= dug;
            if (tried.tax(house) <= much) {
                return dug;
            }
        }
        return -1;
    }

    public int felling(int tree) {
        needed(tree);
        World tried = now.copy();
        tried.trees.remove(tree);
        return tried.total() - now.total();
    }

    public int ruin() {
        int all = 0;
        for (int tree : now.trees.keySet()) {
            World tried = now.copy();
            tried.trees.remove(tree);
            boolean ruins = false;
            for (int i = 0; i < now.houses.size(); i++) {
                int purse = now.houses.get(i).purse;
                ruins |= now.tax(i) <= purse && tried.tax(i) > purse;
            }
            all |= ruins ? 1 << tree : 0;
        }
        return all;
    }

    public int compare(int law, int what) {
        none(law < -1 || law >= now.laws.size() || what < 0 || what > 1);
        int sum = 0;
        int most = 0;
        for (House h : now.houses) {
            sum += now.tax(h, law);
            most = Math.max(most, now.tax(h, law));
        }
        return what == 0 ? sum : most;
    }

    public int mildest(int sum) {
        illegal(sum < 0 || sum > 9999);
        int best = -1;
        for (int law = now.laws.size() - 1; law >= 0; law--) {
            if (compare(law, 0) >= sum && (best < 0 || compare(law, 1) <= compare(best, 1))) {
                best = law;
            }
        }
        return best;
    }

    public int round(int cell) {
        noCell(cell);
        List<List<Integer>> orders = new ArrayList<>();
        orders(new ArrayList<>(), orders);
        int best = Integer.MAX_VALUE;
        for (List<Integer> order : orders) {
            int at = cell;
            int steps = 0;
            for (int i : order) {
                int to = now.houses.get(i).cell;
                steps += Math.max(Math.abs(at % now.w - to % now.w), Math.abs(at / now.w - to / now.w));
                at = to;
            }
            if (steps < best) {
                best = steps;
                stops = order;
            }
        }
        return best;
    }

    private void orders(List<Integer> begun, List<List<Integer>> all) {
        if (begun.size() == now.houses.size()) {
            all.add(new ArrayList<>(begun));
        }
        for (int i = 0; i < now.houses.size(); i++) {
            if (!begun.contains(i)) {
                begun.add(i);
                orders(begun, all);
                begun.remove(begun.size() - 1);
            }
        }
    }

    public int stop(int i) {
        none(i < 0 || i >= stops.size());
        return stops.get(i);
    }

    public int barns(int house, int other, int much, int pence, int what) {
        noHouse(house);
        noHouse(other);
        none(what < 0 || what > 1);
        illegal(house == other || much < 1 || much > 5 || pence < 0 || pence > 99);
        int[][][] loss = new int[2][2][2];
        for (int a = 0; a < 2; a++) {
            for (int b = 0; b < 2; b++) {
                World tried = now.copy();
                tried.houses.get(house).barn += a * much;
                tried.houses.get(other).barn += b * much;
                loss[a][b][0] = tried.tax(house) + a * pence;
                loss[a][b][1] = tried.tax(other) + b * pence;
            }
        }
        List<Integer> rest = new ArrayList<>();
        for (int a = 0; a < 2; a++) {
            for (int b = 0; b < 2; b++) {
                if (loss[1 - a][b][0] >= loss[a][b][0] && loss[a][1 - b][1] >= loss[a][b][1]) {
                    rest.add(10 * a + b);
                }
            }
        }
        return what == 0 ? rest.size() : rest.isEmpty() ? -1 : rest.get(0);
    }

    public int tell(int house, int miles) {
        noHouse(house);
        if (told.size() == 6 || miles < 0 || miles > 99) {
            status[2]++;
            return -1;
        }
        told.add(new Told(house, miles));
        return told.size();
    }

    public void forget() {
        told.clear();
    }

    public int liars() {
        return liars(now);
    }

    private int liars(World world) {
        int all = 0;
        for (Told t : told) {
            if (world.miles(world.houses.get(t.house())) != t.miles()) {
                all |= 1 << t.house();
            }
        }
        return all;
    }

    public int heights(int cell, int what) {
        noCell(cell);
        none(what < 0 || what > 1);
        List<Integer> fit = new ArrayList<>();
        for (int height = 0; height < 10; height++) {
            if (liars(raised(cell, height)) == 0) {
                fit.add(height);
            }
        }
        return what == 0 ? fit.size() : fit.isEmpty() ? -1 : fit.get(0);
    }

    private World raised(int cell, int height) {
        World tried = now.copy();
        tried.heights[cell] = height;
        return tried;
    }

    public int cheat() {
        int best = -1;
        int fewest = Integer.bitCount(liars());
        for (int cell = 0; cell < now.w * now.h; cell++) {
            for (int height = 0; height < 10; height++) {
                if (now.houseIn(cell) < 0 && height != now.height(cell)) {
                    int lying = Integer.bitCount(liars(raised(cell, height)));
                    if (lying < fewest) {
                        fewest = lying;
                        best = 10 * cell + height;
                    }
                }
            }
        }
        return best;
    }

    public int ruined() {
        World tried = now.copy();
        for (int years = 0; years <= 50; years++) {
            if (tried.houses.stream().anyMatch(h -> h.purse < 0)) {
                return years;
            }
            tried.goYear();
        }
        return -1;
    }

    public int decades(int seed, int n, int what) {
        none(what < 0 || what > 2);
        illegal(n < 0 || n > 40);
        World tried = now.copy();
        int[] s = {seed};
        IntUnaryOperator draw = m -> {
            s[0] = s[0] * 1103515245 + 12345;
            return (s[0] >> 16 & 32767) % m;
        };
        int sum = 0;
        for (int i = 0; i < n; i++) {
            Integer tree = tried.treeIn(draw.applyAsInt(tried.w * tried.h));
            if (tree != null) {
                tried.trees.remove(tree);
            }
            tried.drawnFog = draw.applyAsInt(9) + 1;
            sum += tried.goYear();
        }
        int least = tried.houses.stream().mapToInt(h -> h.purse).min().orElse(0);
        return what == 0 ? sum : what == 1 ? tried.trees.size() : least;
    }

    public int hollow(int what) {
        none(what < 0 || what > 1);
        int best = -1;
        int least = -1;
        for (int cell = 0; cell < now.w * now.h; cell++) {
            if (now.bare(cell)) {
                World tried = now.copy();
                House villa = new House();
                villa.cell = cell;
                tried.houses.add(villa);
                int tax = tried.tax(villa, now.law);
                if (best < 0 || tax < least) {
                    best = cell;
                    least = tax;
                }
            }
        }
        return what == 0 ? best : least;
    }

    public int sale(int house) {
        noHouse(house);
        int best = -1;
        int least = now.tax(house);
        for (int d = 0; d < 8; d++) {
            World tried = now.copy();
            tried.houses.get(house).sold |= 1 << d;
            if (tried.tax(house) < least) {
                least = tried.tax(house);
                best = d;
            }
        }
        return best;
    }

    public int shade(int house, int other) {
        noHouse(house);
        noHouse(other);
        illegal(house == other);
        int best = 0;
        int least = Integer.MAX_VALUE;
        for (int barn = 0; barn <= 5; barn++) {
            World tried = now.copy();
            tried.houses.get(other).barn = barn;
            if (tried.tax(house) < least) {
                least = tried.tax(house);
                best = barn;
            }
        }
        return best;
    }

    public int dearest(int years) {
        illegal(years < 1 || years > 20);
        World tried = now.copy();
        int best = -1;
        int most = -1;
        for (int i = 0; i < years; i++) {
            if (tried.total() > most) {
                most = tried.total();
                best = tried.year;
            }
            tried.goYear();
        }
        return best;
    }

    public void image() {
        imageNow = now.copy();
        imagePast = copied(past);
        imageTold = new ArrayList<>(told);
    }

    public boolean restore() {
        if (imageNow == null) {
            return false;
        }
        now = imageNow.copy();
        past = copied(imagePast);
        told = new ArrayList<>(imageTold);
        return true;
    }

    private static Deque<World> copied(Deque<World> worlds) {
        Deque<World> all = new ArrayDeque<>();
        worlds.forEach(w -> all.add(w.copy()));
        return all;
    }

    private void act() {
        past.addLast(now.copy());
        if (past.size() > 40) {
            past.removeFirst();
        }
    }

    private static int bits(int n, IntUnaryOperator bit) {
        int all = 0;
        for (int i = 0; i < n; i++) {
            all |= bit.applyAsInt(i) << i;
        }
        return all;
    }

    private Tree needed(int tree) {
        Tree t = now.trees.get(tree);
        none(t == null);
        return t;
    }

    private void noCell(int cell) {
        none(cell < 0 || cell >= now.w * now.h);
    }

    private void noHouse(int house) {
        none(house < 0 || house >= now.houses.size());
    }

    private static void none(boolean is) {
        if (is) {
            throw new NoSuchElementException();
        }
    }

    private static void illegal(boolean is) {
        if (is) {
            throw new IllegalArgumentException();
        }
    }
}

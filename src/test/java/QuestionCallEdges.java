import java.util.Map;

/** Edges of the calls that ask, and of returns: promises 19 to 39. None of them changes what there is. */
final class QuestionCallEdges extends Edges {
    private static final int MIN = Integer.MIN_VALUE;
    private static final int MAX = Integer.MAX_VALUE;

    private final Twins twins;

    QuestionCallEdges(Check check, Document document) {
        super(check, document);
        twins = new Twins(check, () -> StateCallEdges.rich(fresh()));
    }

    @Override
    void all() {
        firs();
        lawsAndRounds();
        returns();
        whatWouldBe();
    }

    private void firs() {
        under("Promise 19");
        of("`int firs(int houses, int much) throws IllegalArgumentException`: FIRS: how many; the CELLS are kept",
            this::firsAreKept);
        of("NONE: none (what is kept stays).", this::keptFirsStay);
        of("IllegalArgumentException: bits of HOUSES that there aren't, so much (0 to 999).", this::noSuchFirs);
        under("Promise 20");
        of("`int fir(int i) throws NoSuchElementException`: The i-th CELL of FIRS that are kept.", this::fir);
        of("NoSuchElementException: there is none, none are kept.", this::noFir);
        under("Promise 21");
        of("`int spades(int house, int much) throws NoSuchElementException, IllegalArgumentException`: SPADES; NONE: none.",
            this::spades);
        of("IllegalArgumentException (behind NoSuchElementException): so much (0 to 999).", this::spadesForSoMuch);
        under("Promise 22");
        of("`int felling(int tree) throws NoSuchElementException`: FELLING (below 0: less).", this::felling);
        under("Promise 23");
        of("`int ruin()`: RUIN, as bits.", this::ruin);
    }

    private void lawsAndRounds() {
        under("Promise 24");
        of("`int compare(int law, int what) throws NoSuchElementException`: LAWS COMPARED (NONE: by none): all together "
            + "(what 0), the most (1).", this::compare);
        of("NoSuchElementException: no such LAW, another what.", this::notCompared);
        under("Promise 25");
        of("`int mildest(int sum) throws IllegalArgumentException`: THE MILDEST; NONE: none.", this::mildest);
        of("IllegalArgumentException: the sum.", this::noSuchSum);
        under("Promise 26");
        of("`int round(int cell) throws NoSuchElementException`: THE ROUND: how many steps; the row is kept.", this::round);
        under("Promise 27");
        of("`int stop(int i) throws NoSuchElementException`: The i-th HOUSE of THE ROUND that is kept.", this::stop);
        of("NoSuchElementException: there is none, none is kept.", this::noStop);
        under("Promise 28");
        of("`int barns(int house, int other, int much, int pence, int what) throws NoSuchElementException, "
            + "IllegalArgumentException`: BARNS: how many couples rest (what 0), the first (1; NONE: none).", this::barns);
        of("NoSuchElementException: also another what.", this::noSuchBarns);
        of("IllegalArgumentException (behind that): both are one, how much, pence.", this::illegalBarns);
    }

    private void returns() {
        under("Promise 29");
        of("`int tell(int house, int miles) throws NoSuchElementException`: A RETURN: how many are told.", this::tell);
        of("NONE (STATUS 2): there are 6", this::thereAreSix);
        of("not 0 to 99.", this::noSuchMiles);
        of("NoSuchElementException (ahead): no such HOUSE.", this::noSuchHouseAhead);
        under("Promise 30");
        of("`void forget()`: All RETURNS are forgotten.", this::forget);
        under("Promise 31");
        of("`int liars()`: LIARS, as bits.", this::liars);
        under("Promise 32");
        of("`int heights(int cell, int what) throws NoSuchElementException`: HEIGHTS: how many (what 0), the least (1; NONE: "
            + "none).", this::heights);
        of("NoSuchElementException: also another what.", this::noSuchHeights);
        under("Promise 33");
        of("`int cheat()`: A CHEAT; NONE: none.", this::cheat);
    }

    private void whatWouldBe() {
        under("Promise 34");
        of("`int ruined()`: RUINED; NONE: none.", this::ruined);
        under("Promise 35");
        of("`int decades(int seed, int n, int what) throws NoSuchElementException, IllegalArgumentException`: DECADES: TAX "
            + "(what 0), TREES (1), the least PURSE (2).", this::decades);
        of("NoSuchElementException: another what.", this::noSuchDecades);
        of("IllegalArgumentException (behind that): n.", this::illegalDecades);
        under("Promise 36");
        of("`int hollow(int what) throws NoSuchElementException`: A HOLLOW: the CELL (what 0; NONE: none), TAX (1; NONE: none).",
            this::hollow);
        of("NoSuchElementException: another what.", () -> twins.each(Check.NO_SUCH, "hollow", new int[] {0}, 0, -1, 2, MIN, MAX));
        under("Promise 37");
        of("`int sale(int house) throws NoSuchElementException`: A SALE: the DIRECTION; NONE: none.", this::sale);
        under("Promise 38");
        of("`int shade(int house, int other) throws NoSuchElementException, IllegalArgumentException`: SHADE.", this::shade);
        of("IllegalArgumentException (behind NoSuchElementException): both are one.", this::bothAreOne);
        under("Promise 39");
        of("`int dearest(int years) throws IllegalArgumentException`: THE DEAREST: the YEAR.", this::dearest);
        of("IllegalArgumentException: not 1 to 20.",
            () -> twins.each(Check.ILLEGAL, "dearest", new int[] {1}, 0, 0, 21, -1, MIN, MAX));
    }

    // ---- firs, spades, trees

    private void firsAreKept() {
        Run x = land("land 7 1;villa 3 0 0;");
        x.is(2, "firs", 1, 2);
        x.is(2, "fir", 0);
        x.is(4, "fir", 1);
        x.is(1, "firs", 1, 4);
        x.is(2, "fir", 0);
        x.noSuch("fir", 1);
        x.is(0, "firs", 1, 6);
        x.noSuch("fir", 0);
        // They stay over acts, whatever comes to stand there.
        x.is(1, "firs", 1, 5);
        x.call("plant", 1, 9);
        x.is(1, "fir", 0);
        x.call("undo");
        x.is(1, "fir", 0);
        // The rich one keeps a fir in cell 1; for 999 none is needed.
        twins.traces(Map.of("fir(0)", Check.NO_SUCH), 0, "firs", 3, 999);
    }

    private void keptFirsStay() {
        Run x = land("land 7 1;villa 3 0 0;");
        x.is(-1, "firs", 1, 1);
        x.noSuch("fir", 0);
        x.is(2, "firs", 1, 2);
        x.is(-1, "firs", 1, 1);
        x.is(2, "fir", 0);
        x.is(4, "fir", 1);
        twins.noTrace(-1, "firs", 1, 0);
    }

    private void noSuchFirs() {
        twins.each(Check.ILLEGAL, "firs", new int[] {1, 5}, 0, 4, 5, 8, 64, -1, MIN, MAX);
        twins.each(Check.ILLEGAL, "firs", new int[] {1, 5}, 1, -1, 1000, MIN, MAX);
        Run x = land(StateCallEdges.SMALL);
        x.is(0, "firs", 0, 0);
        x.is(0, "firs", 3, 999);
        Run six = land(houses(6));
        six.is(0, "firs", 63, 999);
        six.illegal("firs", 64, 999);
        Run none = fresh();
        none.is(0, "firs", 0, 0);
        none.illegal("firs", 1, 0);
    }

    private void fir() {
        Run x = land("land 7 1;villa 3 0 0;");
        x.call("firs", 1, 2);
        x.is(2, "fir", 0);
        x.is(4, "fir", 1);
    }

    private void noFir() {
        twins.each(Check.NO_SUCH, "fir", new int[] {0}, 0, -1, 1, 2, MIN, MAX);
        fresh().noSuch("fir", 0);
        Run x = land("land 7 1;villa 3 0 0;");
        x.noSuch("fir", 0);
        x.call("firs", 1, 2);
        x.noSuch("fir", -1);
        x.noSuch("fir", 2);
        x.call("firs", 1, 6);
        x.noSuch("fir", 0);
    }

    private void spades() {
        twins.noTrace(0, "spades", 0, 999);
        twins.noTrace(-1, "spades", 0, 0);
        Run x = land("villa 0 0 0;tax floor+3;");
        x.is(3, "spades", 0, 0);
        x.is(0, "house", 0, 3);
        x.noSuch("spades", 1, 0);
    }

    private void spadesForSoMuch() {
        twins.each(Check.ILLEGAL, "spades", new int[] {0, 0}, 1, -1, 1000, MIN, MAX);
        twins.each(Check.NO_SUCH, "spades", new int[] {0, 1000}, 0, -1, 2);
        Run x = land("villa 0 0 0;tax 999;");
        x.is(0, "spades", 0, 999);
        x.is(-1, "spades", 0, 998);
        x.is(-1, "spades", 0, 0);
    }

    private void felling() {
        // Without the tree of 5 the villa, whose view is sold, owes the same; the inn's slant ends at the border.
        twins.noTrace(0, "felling", 0);
        Run x = land("land 3 1;villa 0 0 0;tree 1 0 9 9;tax miles;tax 9-miles;");
        x.is(1, "felling", 0);
        x.call("obey", 1);
        x.is(-1, "felling", 0);
        x.is(1, "count", 2);
    }

    private void ruin() {
        twins.noTrace(0, "ruin");
        Run x = land("land 3 1;villa 0 0 1;tree 1 0 9 9;");
        x.is(1, "ruin");
        x.is(1, "count", 2);
    }

    // ---- laws, rounds, barns

    private void compare() {
        twins.noTrace(6, "compare", -1, 0);
        twins.noTrace(4, "compare", -1, 1);
        twins.noTrace(6, "compare", 0, 0);
        twins.noTrace(4, "compare", 0, 1);
        twins.noTrace(10, "compare", 1, 0);
        twins.noTrace(5, "compare", 1, 1);
    }

    private void notCompared() {
        twins.each(Check.NO_SUCH, "compare", new int[] {0, 0}, 0, -2, 2, 4, MIN, MAX);
        twins.each(Check.NO_SUCH, "compare", new int[] {0, 0}, 1, -1, 2, MIN, MAX);
        Run none = land("villa 0 0 0;");
        none.is(21, "compare", -1, 0);
        none.noSuch("compare", 0, 0);
    }

    private void mildest() {
        twins.noTrace(0, "mildest", 6);
        twins.noTrace(1, "mildest", 7);
        twins.noTrace(1, "mildest", 10);
        twins.noTrace(-1, "mildest", 11);
        twins.noTrace(-1, "mildest", 9999);
    }

    private void noSuchSum() {
        twins.each(Check.ILLEGAL, "mildest", new int[] {0}, 0, -1, 10000, MIN, MAX);
        Run x = land("villa 0 0 0;tax 5;");
        x.is(0, "mildest", 0);
        x.is(-1, "mildest", 9999);
        fresh().illegal("mildest", 10000);
    }

    private void round() {
        // From the inn's cell: 0 and 3; the row is the one that is kept already.
        twins.noTrace(3, "round", 7);
        twins.traces(Map.of("stop(0)", 0L, "stop(1)", 1L), 3, "round", 0);
        Run x = land("land 3 1;villa 0 0 0;villa 2 0 0;");
        x.is(2, "round", 2);
        x.is(1, "stop", 0);
        x.noSuch("round", 3);
        x.noSuch("round", -1);
        x.is(1, "stop", 0);
        x.call("years", 1);
        x.call("undo");
        x.is(1, "stop", 0);
    }

    private void stop() {
        Run six = land(houses(6));
        six.is(5, "round", 0);
        for (int i = 0; i < 6; i++) {
            six.is(i, "stop", i);
        }
        six.noSuch("stop", 6);
    }

    private void noStop() {
        twins.each(Check.NO_SUCH, "stop", new int[] {0}, 0, -1, 2, 6, MIN, MAX);
        fresh().noSuch("stop", 0);
        Run none = fresh();
        none.is(0, "round", 0);
        none.noSuch("stop", 0);
        Run x = land("villa 0 0 0;");
        x.noSuch("stop", 0);
        x.call("round", 0);
        x.is(0, "stop", 0);
        x.noSuch("stop", 1);
    }

    private void barns() {
        twins.noTrace(4, "barns", 0, 1, 5, 0, 0);
        twins.noTrace(0, "barns", 0, 1, 5, 0, 1);
        twins.noTrace(1, "barns", 1, 0, 1, 99, 0);
        twins.noTrace(0, "barns", 1, 0, 1, 99, 1);
    }

    private void noSuchBarns() {
        twins.each(Check.NO_SUCH, "barns", new int[] {0, 1, 1, 0, 0}, 4, -1, 2, MIN, MAX);
        twins.each(Check.NO_SUCH, "barns", new int[] {0, 1, 1, 0, 0}, 0, -1, 2);
        twins.each(Check.NO_SUCH, "barns", new int[] {0, 1, 1, 0, 0}, 1, -1, 2);
        // Ahead of all that is illegal.
        twins.noTrace(Check.NO_SUCH, "barns", 0, 0, 0, -1, 2);
        twins.noTrace(Check.NO_SUCH, "barns", 2, 2, 1, 0, 0);
        twins.noTrace(Check.NO_SUCH, "barns", 0, -1, 6, 100, 0);
    }

    private void illegalBarns() {
        twins.noTrace(Check.ILLEGAL, "barns", 0, 0, 1, 0, 0);
        twins.noTrace(Check.ILLEGAL, "barns", 1, 1, 1, 0, 1);
        twins.each(Check.ILLEGAL, "barns", new int[] {0, 1, 1, 0, 0}, 2, 0, 6, -1, MIN, MAX);
        twins.each(Check.ILLEGAL, "barns", new int[] {0, 1, 1, 0, 0}, 3, -1, 100, MIN, MAX);
    }

    // ---- returns

    private void tell() {
        Run x = land(StateCallEdges.SMALL);
        for (int i = 1; i <= 6; i++) {
            x.is(i, "tell", i % 2, i);
        }
        x.is(6, "count", 10);
        x.is(0, "count", 14);
        // A return is no act.
        x.is(0, "count", 9);
        x.is(-1, "undo");
    }

    private void thereAreSix() {
        Twins six = new Twins(check, () -> {
            Run x = land(StateCallEdges.SMALL);
            for (int i = 0; i < 6; i++) {
                x.call("tell", 0, 4);
            }
            return x;
        });
        six.refused(2, -1, "tell", 0, 4);
        six.refused(2, -1, "tell", 0, 100);
    }

    private void noSuchMiles() {
        for (int miles : new int[] {-1, 100, MIN, MAX}) {
            twins.refused(2, -1, "tell", 0, miles);
        }
        Run x = land(StateCallEdges.SMALL);
        x.is(1, "tell", 0, 0);
        x.is(2, "tell", 0, 99);
    }

    private void noSuchHouseAhead() {
        twins.each(Check.NO_SUCH, "tell", new int[] {0, 100}, 0, -1, 2, MIN, MAX);
        Run x = land(StateCallEdges.SMALL);
        for (int i = 0; i < 6; i++) {
            x.call("tell", 0, 4);
        }
        x.noSuch("tell", 2, 4);
        x.is(0, "count", 14);
    }

    private void forget() {
        Run none = fresh();
        none.call("forget");
        none.is(0, "count", 10);
        Run x = StateCallEdges.rich(fresh());
        x.is(3, "count", 10);
        x.is(2, "liars");
        x.call("forget");
        x.is(0, "count", 10);
        x.is(0, "liars");
        x.is(1, "count", 14);
        x.is(3, "count", 9);
        x.is(1, "tell", 0, 0);
        // The image keeps its own.
        x.is(1, "restore");
        x.is(2, "count", 10);
    }

    private void liars() {
        twins.noTrace(2, "liars");
        fresh().is(0, "liars");
        Run six = land(houses(6));
        for (int house = 0; house < 6; house++) {
            six.call("tell", house, 99);
        }
        six.is(63, "liars");
    }

    private void heights() {
        // The inn told 3 and 4: never both.
        twins.noTrace(0, "heights", 6, 0);
        twins.noTrace(-1, "heights", 6, 1);
        Run x = land("land 3 1;villa 0 0 0;");
        x.is(10, "heights", 2, 0);
        x.is(0, "heights", 2, 1);
        x.call("tell", 0, 1);
        x.is(9, "heights", 1, 0);
        x.is(1, "heights", 1, 1);
    }

    private void noSuchHeights() {
        twins.each(Check.NO_SUCH, "heights", new int[] {0, 0}, 1, -1, 2, MIN, MAX);
        twins.each(Check.NO_SUCH, "heights", new int[] {0, 0}, 0, -1, 8, MIN, MAX);
    }

    private void cheat() {
        twins.noTrace(-1, "cheat");
        Run x = land("land 3 1;villa 0 0 0;");
        x.is(-1, "cheat");
        x.call("tell", 0, 1);
        x.is(11, "cheat");
        x.is(0, "cell", 1, 0);
    }

    // ---- what would be

    private void ruined() {
        // 9 were in the inn's purse, 5 and 3 are paid; 4 more a year.
        twins.noTrace(1, "ruined");
        land("villa 0 0 0;tax 0;").is(-1, "ruined");
        fresh().is(-1, "ruined");
    }

    private void decades() {
        twins.noTrace(0, "decades", 7, 0, 0);
        twins.noTrace(2, "decades", 7, 0, 1);
        Run x = land("villa 0 0 40;tax 1;tree 7 7 1 1;");
        x.is(40, "decades", 1, 40, 0);
        x.is(0, "decades", 1, 40, 2);
        x.is(0, "count", 6);
        x.is(40, "house", 0, 2);
    }

    private void noSuchDecades() {
        twins.each(Check.NO_SUCH, "decades", new int[] {0, 0, 0}, 2, -1, 3, MIN, MAX);
        twins.each(Check.NO_SUCH, "decades", new int[] {0, 41, 0}, 2, -1, 3);
        twins.each(Check.NO_SUCH, "decades", new int[] {0, -1, 0}, 2, -1, 3);
    }

    private void illegalDecades() {
        for (int what = 0; what < 3; what++) {
            twins.each(Check.ILLEGAL, "decades", new int[] {0, 0, what}, 1, -1, 41, MIN, MAX);
        }
    }

    private void hollow() {
        Run full = land("land 1 1;villa 0 0 0;");
        full.is(-1, "hollow", 0);
        full.is(-1, "hollow", 1);
        Run x = land("land 2 1;villa 0 0 0;tax 0;");
        x.is(1, "hollow", 0);
        x.is(0, "hollow", 1);
        x.is(1, "count", 3);
        Run first = land("land 1 1;");
        first.is(0, "hollow", 0);
        first.is(0, "hollow", 1);
        // In cell 3: the tree of 5, the inn, a bare cell.
        twins.noTrace(3, "hollow", 0);
        twins.noTrace(3, "hollow", 1);
    }

    private void sale() {
        // Down and down to the right 1 each; the right one is sold.
        twins.noTrace(3, "sale", 0);
        twins.noTrace(Check.NO_SUCH, "sale", 2);
        Run x = land("land 2 1;villa 0 0 0;");
        x.is(2, "sale", 0);
        x.is(0, "house", 0, 5);
        x.call("sell", 0, 2);
        x.is(-1, "sale", 0);
    }

    private void shade() {
        twins.noTrace(0, "shade", 0, 1);
        twins.noTrace(Check.NO_SUCH, "shade", 2, 0);
        twins.noTrace(Check.NO_SUCH, "shade", 0, 2);
        Run x = land("land 3 1;villa 0 0 0;inn 1 0 0;high 2 0 4;");
        x.is(1, "shade", 0, 1);
        x.is(0, "house", 1, 4);
    }

    private void bothAreOne() {
        twins.noTrace(Check.ILLEGAL, "shade", 0, 0);
        twins.noTrace(Check.ILLEGAL, "shade", 1, 1);
        twins.noTrace(Check.NO_SUCH, "shade", 2, 2);
        twins.noTrace(Check.NO_SUCH, "shade", -1, -1);
    }

    private void dearest() {
        twins.noTrace(2, "dearest", 1);
        Run x = land("villa 0 0 0;tax year;");
        x.is(19, "dearest", 20);
        x.is(0, "count", 6);
    }
}

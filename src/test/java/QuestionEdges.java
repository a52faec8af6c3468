/** Edges of what is asked about trees, floors, laws, rounds and barns. */
final class QuestionEdges extends Edges {
    QuestionEdges(Check check, Document document) {
        super(check, document);
    }

    @Override
    void all() {
        under("Terms");
        of("FIRS: the fewest CELLS without TREE or HOUSE (0 to 2)", this::noneToTwoFirs);
        of("in which there were full grown ones (9 high)", this::nineHigh);
        of("so that TAX of each of a set of HOUSES were no more than so much now: how many", this::eachOfASet);
        of("which: the least first one, then the least second one; none.", this::leastFirs);
        of("SPADES: the fewest by which a FLOOR must be lower (down to -3), so that its TAX were no more than so much; none.",
            this::spades);
        of("FELLING of a TREE: by how much more TAX of all together would be.", this::felling);
        of("RUIN: TREES by whose FELLING (of one alone) TAX of some HOUSE whose PURSE is enough for it now would be more "
            + "than its PURSE, as bits.", this::ruin);
        of("LAWS COMPARED: TAX of all together by one, the most that one pays by it.", this::lawsCompared);
        of("THE MILDEST for a told sum (0 to 9999)", this::toldSums);
        of("of LAWS by which all together pay as much or more that by which the most that one pays is least",
            this::asMuchOrMore);
        of("(of like ones the first); none.", this::firstOfLikeLaws);
        of("THE ROUND of the assessor from a CELL: to all HOUSES, in any order, each step to one of the eight CELLS beside: "
            + "the fewest steps", this::rounds);
        of("in which order: of like ones the first as a row of HOUSES.", this::firstOfLikeRounds);
        of("BARNS: two HOUSES each raise their BARN by so much (1 to 5; to what is then, above 5 too) or not",
            this::raisedBarns);
        of("a HOUSE loses what its TAX is then, and, if it raises, so many pence (0 to 99).", this::pence);
        of("A couple RESTS, if neither loses less by its other choice: how many; the first (10 by the first one's choice, "
            + "1 if it raises, and the other one's).", this::couplesThatRest);
    }

    private void kept(Run x, int... cells) {
        for (int i = 0; i < cells.length; i++) {
            x.is(cells[i], "fir", i);
        }
        x.noSuch("fir", cells.length);
    }

    private void noneToTwoFirs() {
        // A view of 7 to one side: a fir k steps off leaves k of it.
        Run x = land("land 8 1;villa 0 0 0;");
        x.is(0, "firs", 1, 7);
        kept(x);
        x.is(1, "firs", 1, 6);
        kept(x, 1);
        x.is(1, "firs", 1, 1);
        kept(x, 1);
        x.is(-1, "firs", 1, 0);
        // Views of 2 to three sides: one fir leaves 5, two leave 4, and a third one there is none.
        Run corner = land("land 3 3;villa 0 0 0;");
        corner.is(0, "firs", 1, 6);
        corner.is(1, "firs", 1, 5);
        kept(corner, 1);
        corner.is(2, "firs", 1, 4);
        kept(corner, 1, 3);
        corner.is(-1, "firs", 1, 3);
        kept(corner, 1, 3);
        // From 7 high one looks over what is 1 or 2 high in cell 1: only a fir there would leave 1.
        for (String taken : new String[] {"tree 1 0 1 1;", "inn 1 0 0;", "blind 1 0 0;"}) {
            Run y = land("land 4 1;high 0 0 5;villa 0 0 0;" + taken);
            y.is(0, "firs", 1, 3);
            y.is(1, "firs", 1, 2);
            kept(y, 2);
            y.is(-1, "firs", 1, 1);
        }
        Run bare = land("land 4 1;high 0 0 5;villa 0 0 0;");
        bare.is(1, "firs", 1, 1);
        kept(bare, 1);
        // No cell is left, or one is.
        land("land 2 1;villa 0 0 0;tree 1 0 1 1;").is(-1, "firs", 1, 0);
        land("land 1 1;villa 0 0 0;tax 1;").is(-1, "firs", 1, 0);
        land("land 1 1;villa 0 0 0;tax 1;").is(0, "firs", 1, 1);
        land("land 2 1;villa 0 0 0;").is(-1, "firs", 1, 0);
    }

    private void nineHigh() {
        // From 2 high a fir beside one has slope 7: what stands at 16 behind it is hidden, at 17 it is not.
        Run hidden = land("land 3 1;villa 0 0 0;high 2 0 9;tree 2 0 7 7;");
        hidden.is(1, "firs", 1, 1);
        kept(hidden, 1);
        land("land 3 1;villa 0 0 0;high 2 0 9;tree 2 0 8 8;").is(-1, "firs", 1, 1);
        // It stands on its cell's height: 7 and 2 hide 20 at most.
        Run hill = land("land 3 1;villa 0 0 0;high 1 0 2;high 2 0 9;tree 2 0 9 9;");
        hill.is(2, "house", 0, 6);
        hill.is(1, "firs", 1, 1);
    }

    private void eachOfASet() {
        Run x = land("land 5 1;high 2 0 3;villa 0 0 0;inn 4 0 0;");
        x.is(0, "firs", 0, 0);
        x.is(0, "firs", 3, 2);
        x.is(1, "firs", 1, 1);
        kept(x, 1);
        x.is(1, "firs", 2, 1);
        kept(x, 3);
        x.is(2, "firs", 3, 1);
        kept(x, 1, 3);
        x.is(-1, "firs", 3, 0);
        x.is(-1, "firs", 1, 0);
        // Each has a view that the other one has not: to the right in the first row, and in the second one.
        Run rows = land("land 3 2;villa 0 0 0;inn 0 1 0;tax miles*9;");
        for (int direction = 0; direction < 8; direction++) {
            if (direction != 2) {
                rows.call("sell", 0, direction);
                rows.call("sell", 1, direction);
            }
        }
        rows.is(2, "firs", 3, 9);
        kept(rows, 1, 4);
        rows.is(1, "firs", 2, 9);
        kept(rows, 4);
        // By the law in force now, in the fog of now, with trees as they are now.
        Run now = land("land 8 1;villa 0 0 0;fog 3 5;tax miles*10;tax 0;");
        now.is(0, "firs", 1, 30);
        now.is(1, "firs", 1, 29);
        now.call("obey", 1);
        now.is(0, "firs", 1, 0);
        now.call("undo");
        now.call("years", 1);
        now.is(1, "firs", 1, 49);
        now.is(0, "firs", 1, 50);
        Run trees = land("land 8 1;villa 0 0 0;tree 1 0 1 2;");
        trees.is(1, "firs", 1, 6);
        trees.call("years", 1);
        trees.is(0, "firs", 1, 1);
        land("land 8 1;villa 0 0 0;tax 999;").is(0, "firs", 1, 999);
        land("land 8 1;villa 0 0 0;tax 999;").is(-1, "firs", 1, 998);
    }

    private void leastFirs() {
        // Views of 3 to both sides.
        Run x = land("land 7 1;villa 3 0 0;");
        x.is(1, "firs", 1, 5);
        kept(x, 1);
        x.is(1, "firs", 1, 4);
        kept(x, 2);
        x.is(2, "firs", 1, 3);
        kept(x, 1, 4);
        x.is(2, "firs", 1, 2);
        kept(x, 2, 4);
        x.is(-1, "firs", 1, 1);
        kept(x, 2, 4);
        // Two side by side: without the right view there are 2 down and 2 on the slant.
        Run beside = land("land 3 3;villa 0 0 0;");
        beside.call("sell", 0, 2);
        beside.is(2, "firs", 1, 2);
        kept(beside, 3, 4);
        // The land's first and last cells, too: behind a ridge a fir is seen, and by such a law that helps.
        Run left = land("land 3 1;villa 2 0 0;high 1 0 2;tax 9-miles;");
        left.is(1, "firs", 1, 7);
        kept(left, 0);
        Run both = land("land 5 1;villa 2 0 0;high 1 0 2;high 3 0 2;tax 9-miles;");
        both.is(2, "firs", 1, 5);
        kept(both, 0, 4);
        Run last = land("villa 5 7 0;high 6 7 2;tax 99-miles;");
        // Up 7, up and right 2, right 1 (of 2), left 5, up and left 5.
        last.is(99 - 20, "house", 0, 7);
        last.is(1, "firs", 1, 99 - 21);
        kept(last, 63);
    }

    private void spades() {
        Run x = land("villa 0 0 0;tax floor+3;tax floor+4;tax 3-floor;");
        x.call("floor", 0, 3);
        for (int much = 0; much <= 6; much++) {
            x.is(6 - much, "spades", 0, much);
        }
        x.is(0, "spades", 0, 7);
        x.call("obey", 1);
        x.is(6, "spades", 0, 1);
        x.is(-1, "spades", 0, 0);
        x.call("floor", 0, -3);
        x.is(0, "spades", 0, 1);
        x.is(-1, "spades", 0, 0);
        // Lower, never higher.
        x.call("obey", 2);
        x.call("floor", 0, 0);
        x.is(0, "spades", 0, 3);
        x.is(-1, "spades", 0, 2);
        x.is(0, "house", 0, 3);
        // The fewest: 3 miles from 5 and 4 high, 2 from 3 and 2, 1 from 1 high.
        Run view = land("land 4 1;villa 0 0 0;high 1 0 1;high 2 0 1;");
        view.call("floor", 0, 3);
        view.is(0, "spades", 0, 3);
        view.is(2, "spades", 0, 2);
        view.is(4, "spades", 0, 1);
        view.is(-1, "spades", 0, 0);
        // Each house's own floor.
        Run last = land(houses(6) + "tax floor+3;");
        last.call("floor", 4, 3);
        last.call("floor", 5, 2);
        last.is(0, "spades", 0, 3);
        last.is(6, "spades", 4, 0);
        last.is(5, "spades", 5, 0);
        // Of a blind one there is nothing to dig away.
        land("blind 0 0 0;").is(0, "spades", 0, 0);
    }

    private void felling() {
        Run x = land("land 3 1;villa 0 0 0;tree 1 0 9 9;tax miles;tax 9-miles;tax 5;tax 0-miles;");
        x.is(1, "felling", 0);
        x.call("obey", 1);
        x.is(-1, "felling", 0);
        x.call("obey", 2);
        x.is(0, "felling", 0);
        x.call("obey", 3);
        x.is(0, "felling", 0);
        // Of all together: both sides see farther.
        Run two = land("land 4 1;villa 0 0 0;inn 3 0 0;tree 1 0 9 9;");
        two.is(1 + 2, "count", 8);
        two.is(3 + 3 - 3, "felling", 0);
        land("tree 0 0 9 9;tax 999;").is(0, "felling", 0);
        Run most = land(houses(6) + "tree 7 7 1 1;tax 0-999*miles;");
        most.is(0, "felling", 0);
    }

    private void ruin() {
        // The tree leaves 1 mile, without it there are 2.
        int[] bits = {0, 1, 0};
        for (int purse = 0; purse < 3; purse++) {
            land("land 3 1;villa 0 0 " + purse + ";tree 1 0 9 9;").is(bits[purse], "ruin");
        }
        // The nearer of two hides the other one; both together would be felled for that.
        land("land 4 1;villa 0 0 1;tree 1 0 9 9;tree 2 0 9 9;").is(1, "ruin");
        land("land 4 1;villa 0 0 0;tree 1 0 9 9;tree 2 0 9 9;tax (miles=3)*5;").is(0, "ruin");
        // One house is enough, and one that can't pay now is none.
        land("land 5 1;villa 0 0 0;inn 4 0 2;tree 1 0 9 9;tree 3 0 9 9;").is(2, "ruin");
        land("land 5 1;villa 0 0 0;inn 4 0 3;tree 1 0 9 9;tree 3 0 9 9;").is(0, "ruin");
        Run below = land("land 3 1;villa 0 0 1;tree 1 0 9 9;tax 5;tax miles;");
        below.call("years", 1);
        below.call("obey", 1);
        below.is(-4, "house", 0, 2);
        below.is(0, "ruin");
        fresh().is(0, "ruin");
        land("villa 0 0 0;tax 0;").is(0, "ruin");
        land("tree 0 0 1 1;").is(0, "ruin");
        // Without its ridge the villa would owe more, but that is no tree.
        land("land 3 2;villa 0 0 3;high 1 0 5;tree 2 1 1 9;").is(0, "ruin");
        // The last one of six houses: behind the tree there are 6 more to the right.
        Run six = land("blind 0 0 0;blind 1 0 0;blind 2 0 0;blind 3 0 0;blind 4 0 0;villa 0 7 15;tree 1 7 9 9;");
        six.is(15, "house", 5, 7);
        six.is(1, "ruin");
        // The twelfth one alone stands beside the villa: up 7, left 1 (of 7), up and left 7.
        Run last = land(trees(11) + "tree 6 7 9 9;villa 7 7 15;");
        last.is(15, "house", 0, 7);
        last.is(1 << 11, "ruin");
    }

    private void lawsCompared() {
        Run none = land("tax 5;");
        none.is(0, "compare", 0, 0);
        none.is(0, "compare", 0, 1);
        Run x = land(houses(6) + "tax 1000;tax 0-1;tax kind*2;");
        x.is(5994, "compare", 0, 0);
        x.is(999, "compare", 0, 1);
        x.is(0, "compare", 1, 0);
        x.is(0, "compare", 1, 1);
        x.is(12, "compare", 2, 0);
        x.is(4, "compare", 2, 1);
        // The one that pays most may be any one of them.
        land("villa 0 0 0;inn 7 7 0;blind 7 0 0;tax 9-kind;").is(9, "compare", 0, 1);
        land("villa 0 0 0;inn 7 7 0;blind 7 0 0;tax (kind=1)*9;").is(9, "compare", 0, 1);
        // Whichever is in force.
        x.call("obey", 1);
        x.is(12, "compare", 2, 0);
        x.is(1, "count", 5);
        Run one = land("land 3 1;villa 0 0 0;inn 1 0 0;tax 5;");
        one.is(3, "compare", -1, 0);
        one.is(2, "compare", -1, 1);
    }

    private void toldSums() {
        Run x = land(houses(6) + "tax 999;");
        x.is(0, "mildest", 0);
        x.is(0, "mildest", 5994);
        x.is(-1, "mildest", 5995);
        x.is(-1, "mildest", 9999);
        x.illegal("mildest", 10000);
        x.illegal("mildest", -1);
    }

    private void asMuchOrMore() {
        // 10 and 10 of all, 10 and 5 the most that one pays; then 8 and 8.
        Run x = land("villa 0 0 0;inn 7 7 0;tax kind*10;tax 5;tax 4;");
        x.is(2, "mildest", 0);
        x.is(2, "mildest", 8);
        x.is(1, "mildest", 9);
        x.is(1, "mildest", 10);
        x.is(-1, "mildest", 11);
        // None of the laws is not one of them.
        Run none = land("villa 0 0 0;tax 30;");
        none.is(21, "compare", -1, 0);
        none.is(0, "mildest", 0);
        none.call("obey", -1);
        none.is(0, "mildest", 21);
    }

    private void firstOfLikeLaws() {
        land("villa 0 0 0;inn 7 7 0;tax 6;tax 5;tax kind*5;tax 5;").is(1, "mildest", 5);
        land("villa 0 0 0;inn 7 7 0;tax 6;tax kind*5;tax 5;tax 5;").is(2, "mildest", 6);
        land("villa 0 0 0;inn 7 7 0;tax kind*5;tax 5;").is(0, "mildest", 5);
        land("tax 6;tax 5;").is(0, "mildest", 0);
        land("tax 6;tax 5;").is(-1, "mildest", 1);
        land("villa 0 0 0;").is(-1, "mildest", 0);
        fresh().is(-1, "mildest", 0);
        land("villa 0 0 0;tax 5;tax 5;tax 5;tax 4;").is(3, "mildest", 4);
        land("villa 0 0 0;tax 5;tax 5;tax 5;tax 4;").is(-1, "mildest", 6);
    }

    private void row(Run x, int... houses) {
        for (int i = 0; i < houses.length; i++) {
            x.is(houses[i], "stop", i);
        }
        x.noSuch("stop", houses.length);
    }

    private void rounds() {
        Run none = land("land 1 1;");
        none.is(0, "round", 0);
        row(none);
        Run here = land("land 1 1;villa 0 0 0;");
        here.is(0, "round", 0);
        row(here, 0);
        Run corner = land("villa 7 7 0;");
        corner.is(7, "round", 0);
        corner.is(7, "round", 7);
        corner.is(1, "round", 54);
        corner.is(0, "round", 63);
        corner.noSuch("round", 64);
        Run six = land("land 8 1;inn 5 0 0;inn 1 0 0;inn 7 0 0;inn 3 0 0;inn 6 0 0;inn 0 0 0;");
        six.is(7, "round", 0);
        row(six, 5, 1, 3, 0, 4, 2);
        six.is(9, "round", 2);
        row(six, 1, 5, 3, 0, 4, 2);
        six.is(7, "round", 7);
        row(six, 2, 4, 0, 3, 1, 5);
        Run column = land("land 1 8;villa 0 7 0;");
        column.is(7, "round", 0);
        column.is(0, "round", 7);
        // Neither height nor tree is in the way.
        Run wall = land("land 3 1;high 1 0 9;tree 1 0 9 9;villa 2 0 0;");
        wall.is(2, "round", 0);
    }

    private void firstOfLikeRounds() {
        Run x = land("land 3 1;villa 2 0 0;villa 0 0 0;");
        x.is(3, "round", 1);
        row(x, 0, 1);
        Run y = land("land 3 1;villa 0 0 0;villa 2 0 0;");
        y.is(3, "round", 1);
        row(y, 0, 1);
        // Four corners, 7 from each to each.
        Run corners = land("villa 7 7 0;villa 0 7 0;villa 7 0 0;villa 0 0 0;");
        corners.is(21, "round", 0);
        row(corners, 3, 0, 1, 2);
        corners.is(21, "round", 63);
        row(corners, 0, 1, 2, 3);
        // A shorter row counts more than an earlier one.
        Run z = land("land 5 1;villa 4 0 0;villa 1 0 0;villa 3 0 0;");
        z.is(4, "round", 0);
        row(z, 1, 2, 0);
    }

    private void raisedBarns() {
        Run x = land("land 3 1;villa 0 0 0;inn 2 0 0;");
        for (int much : new int[] {1, 5}) {
            x.is(4, "barns", 0, 1, much, 0, 0);
            x.is(1, "barns", 0, 1, much, 1, 0);
        }
        x.illegal("barns", 0, 1, 0, 0, 0);
        x.illegal("barns", 0, 1, 6, 0, 0);
        x.call("barn", 0, 5);
        x.call("barn", 1, 5);
        x.is(4, "barns", 0, 1, 5, 0, 0);
        x.is(0, "barns", 0, 1, 5, 0, 1);
        x.is(5, "house", 0, 4);
        x.is(5, "house", 1, 4);
        x.is(7, "cell", 0, 1);
    }

    private void pence() {
        Run x = land("land 3 1;villa 0 0 0;inn 1 0 0;high 2 0 9;tax miles*9;");
        x.is(4, "barns", 0, 1, 5, 0, 0);
        x.is(1, "barns", 0, 1, 5, 1, 0);
        x.is(1, "barns", 0, 1, 5, 99, 0);
        x.illegal("barns", 0, 1, 5, -1, 0);
        x.illegal("barns", 0, 1, 5, 100, 0);
        // What the other one's barn would spare one is no reason to raise one's own.
        Run high = land("land 3 1;villa 0 0 0;inn 1 0 0;high 2 0 4;tax miles*99;");
        high.is(1, "shade", 0, 1);
        high.is(0, "barns", 0, 1, 1, 1, 1);
        high.is(1, "barns", 0, 1, 1, 1, 0);
    }

    private void couplesThatRest() {
        Run x = land("land 4 1;villa 0 0 0;inn 2 0 0;blind 3 0 0;");
        for (int[] couple : new int[][] {{0, 1}, {1, 0}, {0, 2}, {2, 1}}) {
            x.is(4, "barns", couple[0], couple[1], 3, 0, 0);
            x.is(0, "barns", couple[0], couple[1], 3, 0, 1);
            x.is(1, "barns", couple[0], couple[1], 3, 2, 0);
            x.is(0, "barns", couple[0], couple[1], 3, 2, 1);
        }
    }
}

/** Edges of returns and who lied in them, and of what is to come or would be. */
final class ForecastEdges extends Edges {
    ForecastEdges(Check check, Document document) {
        super(check, document);
    }

    @Override
    void all() {
        under("Terms");
        of("RETURNS (at most 6)", this::atMostSixReturns);
        of("that a HOUSE has so many MILES (0 to 99).", this::milesTold);
        of("LIARS: HOUSES of which some RETURN isn't so, as bits.", this::liars);
        of("HEIGHTS of a CELL: how many of 0 to 9 it might have so that all RETURNS were so; the least; none.",
            this::heights);
        of("A CHEAT: of all CELLS without a HOUSE, that one by whose HEIGHT (another one of 0 to 9) fewest HOUSES would be "
            + "LIARS, if fewer than now", this::cheat);
        of("of like ones the least, by its least HEIGHT (10 by the CELL and HEIGHT); none.", this::leastCheat);
        of("RUINED: in how many YEARS from now on (1 to 50, nobody doing anything) some PURSE is below 0 for the first "
            + "time (0: it is now); none.", this::ruined);
        of("DECADES by a seed, from now on: n YEARS (0 to 40)", this::noneToFortyYears);
        of("ahead of each a CELL is drawn (a TREE in it falls)", this::storms);
        of("and a DRAW of 9, and 1, is the FOG of that YEAR in place of the told one", this::fogsDrawn);
        of("TAX that all pay, together; how many TREES stand at the end; the least PURSE then (0 without HOUSES).",
            this::endOfDecades);
        of("A seed becomes itself times 1103515245 and 12345 (an int that wraps); a DRAW of n is its bits 16 to 30 MOD n "
            + "then.", this::draws);
        of("A HOLLOW: of all CELLS without TREE or HOUSE that in which a villa more (FLOOR, BARN 0) would pay least TAX by "
            + "the LAW in force (of like ones the least): which, how much; none.", this::hollow);
        of("A SALE: the view (not SOLD) by whose being SOLD TAX of a HOUSE would be least, if less than now (of like ones "
            + "the least DIRECTION); none.", this::sale);
        of("SHADE for a HOUSE by another one: the BARN of that one (0 to 5) by which its TAX would be least (of like ones "
            + "the least).", this::shade);
        of("THE DEAREST of so many YEARS (1 to 20) from this one on (nobody doing anything): that in which all together "
            + "pay most (of like ones the first).", this::dearest);
    }

    // ---- returns

    private void atMostSixReturns() {
        Run x = land("villa 0 0 0;inn 7 7 0;");
        x.is(0, "count", 10);
        for (int i = 1; i <= 6; i++) {
            x.is(i, "tell", i % 2, 21);
        }
        x.is(-1, "tell", 0, 21);
        x.is(6, "count", 10);
        x.is(1, "count", 14);
        x.call("forget");
        x.is(0, "count", 10);
        x.is(1, "tell", 0, 21);
    }

    private void milesTold() {
        Run x = land("villa 0 0 0;blind 7 7 0;");
        x.is(-1, "tell", 0, -1);
        x.is(1, "tell", 1, 0);
        x.is(2, "tell", 0, 99);
        x.is(-1, "tell", 0, 100);
        x.is(2, "count", 10);
        x.is(2, "count", 14);
        // None of a blind one is so, 99 of a villa is not.
        x.is(1, "liars");
    }

    private void liars() {
        Run x = land(houses(6));
        x.is(0, "liars");
        for (int house = 0; house < 6; house++) {
            x.call("tell", house, 99);
            x.is((2 << house) - 1, "liars");
        }
        x.call("forget");
        x.is(0, "liars");
        Run corner = land("villa 0 0 0;");
        corner.call("tell", 0, 21);
        corner.is(0, "liars");
        corner.call("tell", 0, 20);
        corner.is(1, "liars");
        corner.call("tell", 0, 21);
        corner.is(1, "liars");
        corner.call("forget");
        corner.call("tell", 0, 22);
        corner.is(1, "liars");
        // As it is now, not as it was when it was told.
        corner.call("forget");
        corner.call("tell", 0, 14);
        corner.is(1, "liars");
        corner.call("sell", 0, 2);
        corner.is(0, "liars");
    }

    private void heights() {
        Run x = land("land 3 1;villa 0 0 0;high 1 0 5;");
        x.is(10, "heights", 1, 0);
        x.is(0, "heights", 1, 1);
        x.call("tell", 0, 1);
        // From 1 on cell 1 hides cell 2 (-1 and -2/2).
        x.is(9, "heights", 1, 0);
        x.is(1, "heights", 1, 1);
        // Cell 2 is hidden up to 8 (3 and 6/2).
        x.is(9, "heights", 2, 0);
        x.is(0, "heights", 2, 1);
        x.call("forget");
        x.call("tell", 0, 2);
        x.is(1, "heights", 1, 0);
        x.is(0, "heights", 1, 1);
        x.is(1, "heights", 2, 0);
        x.is(9, "heights", 2, 1);
        // Of its own cell: from 2 and h one sees over 5, if that is more than 10.
        x.is(1, "heights", 0, 0);
        x.is(9, "heights", 0, 1);
        x.call("tell", 0, 1);
        x.is(0, "heights", 1, 0);
        x.is(-1, "heights", 1, 1);
        x.is(5, "cell", 1, 0);
        // A cell that nobody looks over: all or none.
        Run far = land("land 3 3;villa 0 0 0;");
        far.call("tell", 0, 6);
        far.is(10, "heights", 5, 0);
        far.call("tell", 0, 5);
        far.is(0, "heights", 5, 0);
        far.is(-1, "heights", 5, 1);
        // With a tree in it the cell stands higher by that.
        Run tree = land("land 3 1;villa 0 0 0;tree 2 0 1 1;high 1 0 2;");
        tree.call("tell", 0, 2);
        tree.is(8, "heights", 2, 0);
        tree.is(2, "heights", 2, 1);
    }

    private void cheat() {
        fresh().is(-1, "cheat");
        Run x = land("land 3 1;villa 0 0 0;");
        x.is(-1, "cheat");
        x.call("tell", 0, 2);
        x.is(-1, "cheat");
        x.call("forget");
        x.call("tell", 0, 99);
        x.is(-1, "cheat");
        x.call("forget");
        // Cell 1 hides cell 2 from 1 on.
        x.call("tell", 0, 1);
        x.is(11, "cheat");
        x.call("tell", 0, 2);
        x.is(-1, "cheat");
        // Not by a cell with a house, though it would help to lower it; by one with a tree.
        Run inn = land("land 3 1;villa 0 0 0;inn 1 0 0;high 1 0 5;high 2 0 3;");
        inn.call("tell", 0, 2);
        inn.is(-1, "cheat");
        // The tree stands on 5 at 6; on 0 it is 1 high and hides (-1 and -1) the end.
        Run tree = land("land 3 1;villa 0 0 0;tree 1 0 1 1;high 1 0 5;high 2 0 1;");
        tree.call("tell", 0, 2);
        tree.is(10, "cheat");
        // Cell 1 mends the villa alone, cell 3 the inn too: it hides the villa's right end and is seen by the inn.
        Run two = land("land 5 3;villa 2 0 0;inn 3 2 0;high 3 1 1;");
        two.is(9, "house", 0, 6);
        two.is(8, "house", 1, 6);
        two.call("tell", 0, 8);
        two.is(11, "cheat");
        two.call("tell", 1, 9);
        two.is(31, "cheat");
        two.call("forget");
        two.call("tell", 0, 8);
        two.call("tell", 1, 99);
        two.is(11, "cheat");
        // Of two liars only the one of them, whose view is not the other one's, can be mended: by cell 1, by cell 4.
        Run rows = land("land 3 2;villa 0 0 0;inn 0 1 0;");
        for (int direction = 0; direction < 8; direction++) {
            if (direction != 2) {
                rows.call("sell", 0, direction);
                rows.call("sell", 1, direction);
            }
        }
        rows.call("tell", 0, 1);
        rows.call("tell", 1, 99);
        rows.is(11, "cheat");
        rows.call("forget");
        rows.call("tell", 0, 99);
        rows.call("tell", 1, 1);
        rows.is(41, "cheat");
    }

    private void leastCheat() {
        // The very first: cell 0 at 0 is hidden by the 1 before it (-1 and -2/2).
        Run first = land("land 3 1;villa 2 0 0;high 1 0 1;high 0 0 5;");
        first.call("tell", 0, 1);
        first.is(0, "cheat");
        // The very last: only at 9 it is seen over 5 (3 and 7/2); up 7, up and right 2, right 1, left 5, up and left 5.
        Run last = land("villa 5 7 0;blind 6 7 0;high 6 7 3;");
        last.is(20, "house", 0, 6);
        last.call("tell", 0, 21);
        last.is(639, "cheat");
        // To both sides alike: the least cell, by the least of its heights.
        Run both = land("land 5 1;villa 2 0 0;");
        both.call("tell", 0, 3);
        both.is(11, "cheat");
        Run right = land("land 5 1;villa 2 0 0;high 1 0 9;high 3 0 9;");
        right.call("tell", 0, 3);
        right.is(10, "cheat");
    }

    // ---- years to come

    private void ruined() {
        land("villa 0 0 0;tax 0;").is(-1, "ruined");
        land("villa 0 0 0;tax 1;").is(1, "ruined");
        land("villa 0 0 48;tax 1;").is(49, "ruined");
        land("villa 0 0 49;tax 1;").is(50, "ruined");
        land("villa 0 0 50;tax 1;").is(-1, "ruined");
        land("villa 0 0 999;tax 20;").is(50, "ruined");
        land("villa 0 0 999;tax 19;").is(-1, "ruined");
        fresh().is(-1, "ruined");
        // Some purse: the last one of six, though the others have enough.
        Run x = land("villa 0 0 999;inn 1 0 999;inn 2 0 999;inn 3 0 999;inn 4 0 999;blind 5 0 5;tax kind=2;");
        x.is(6, "ruined");
        x.call("years", 5);
        x.is(0, "house", 5, 2);
        x.is(1, "ruined");
        x.call("years", 1);
        x.is(0, "ruined");
        x.call("years", 1);
        x.is(0, "ruined");
        // Fogs turn and trees grow meanwhile: 1, 7, 1 in three years; 3, then 1 behind a tree of 2.
        land("land 8 1;villa 0 0 8;fog 1 9;").is(3, "ruined");
        land("land 4 1;villa 0 0 4;tree 1 0 1 9;").is(3, "ruined");
        // Beyond the year 999, too.
        Run late = land("villa 0 0 0;tax 980<year;");
        for (int i = 0; i < 49; i++) {
            late.call("years", 20);
        }
        late.is(2, "ruined");
        late.call("years", 1);
        late.is(1, "ruined");
        Run beyond = land("villa 0 0 0;tax 999<year;");
        for (int i = 0; i < 49; i++) {
            beyond.call("years", 20);
        }
        beyond.is(21, "ruined");
    }

    private void noneToFortyYears() {
        Run x = land("villa 0 0 100;tree 1 0 1 9;tax 1;");
        x.illegal("decades", 1, -1, 0);
        x.is(0, "decades", 1, 0, 0);
        x.is(1, "decades", 1, 0, 1);
        x.is(100, "decades", 1, 0, 2);
        x.is(1, "decades", 1, 1, 0);
        x.is(40, "decades", 1, 40, 0);
        x.is(60, "decades", 1, 40, 2);
        x.illegal("decades", 1, 41, 0);
        // From now on.
        x.call("years", 3);
        x.is(97, "decades", 1, 0, 2);
        x.is(57, "decades", 1, 40, 2);
        x.is(3, "count", 6);
        Run year = land("villa 0 0 0;tax year;");
        year.is(0 + 1 + 2, "decades", 9, 3, 0);
        year.call("years", 7);
        year.is(7 + 8 + 9, "decades", 9, 3, 0);
    }

    private void storms() {
        // By seed 42 cell 1 of three is drawn: its tree falls ahead of the year, and 2 miles are paid for.
        Run x = land("land 3 1;villa 0 0 0;tree 1 0 9 9;");
        x.is(1, "count", 8);
        x.is(2, "decades", 42, 1, 0);
        x.is(0, "decades", 42, 1, 1);
        // By seed 0 cell 0, in which no tree is.
        x.is(1, "decades", 0, 1, 0);
        x.is(1, "decades", 0, 1, 1);
        x.is(1, "count", 2);
        // On one cell each storm strikes the tree; what fell grows no more.
        Run one = land("land 1 1;tree 0 0 1 9;");
        one.is(1, "decades", 5, 0, 1);
        one.is(0, "decades", 5, 1, 1);
        one.is(0, "decades", 5, 40, 1);
        one.is(1, "tree", 0, 1);
        // By seed 0 cells 0 and 4 of 64 in the first two years.
        Run two = land("tree 0 0 1 9;tree 4 0 1 9;tree 1 0 1 9;");
        two.is(3, "decades", 0, 0, 1);
        two.is(2, "decades", 0, 1, 1);
        two.is(1, "decades", 0, 2, 1);
    }

    private void fogsDrawn() {
        // By seed 0 fogs of 4 and 5, by -1 of 9 and 7, by 42 of 6 and 1, whatever was told.
        for (String told : new String[] {"", "fog 1;", "fog 9 3;"}) {
            Run x = land("villa 0 0 0;tax far;" + told);
            x.is(4, "decades", 0, 1, 0);
            x.is(4 + 5, "decades", 0, 2, 0);
            x.is(7, "decades", -1, 1, 0);
            x.is(7 + 7, "decades", -1, 2, 0);
            x.is(6, "decades", 42, 1, 0);
            x.is(6 + 1, "decades", 42, 2, 0);
        }
        Run x = land("villa 0 0 0;fog 3 2;");
        x.call("decades", 0, 3, 0);
        x.is(3, "count", 7);
        x.is(0, "count", 6);
    }

    private void endOfDecades() {
        Run x = land("villa 0 0 9;inn 7 0 5;blind 0 7 7;tree 7 7 1 1;tax 1+kind;");
        x.is(6, "decades", 1, 1, 0);
        x.is(240, "decades", 1, 40, 0);
        x.is(3, "decades", 1, 1, 2);
        x.is(9 - 40 * 3 - 2, "decades", 1, 40, 2);
        // No tree, no house.
        Run none = fresh();
        for (int n : new int[] {0, 40}) {
            none.is(0, "decades", 1, n, 0);
            none.is(0, "decades", 1, n, 1);
            none.is(0, "decades", 1, n, 2);
        }
        Run full = land(trees(12));
        full.is(12, "decades", 1, 0, 1);
        // A purse above 0 is the least, too; and one below 0 from the beginning.
        Run rich = land("villa 0 0 999;inn 1 0 998;tax 0;");
        rich.is(998, "decades", 1, 40, 2);
        Run poor = land("villa 0 0 0;inn 1 0 998;tax 5;");
        poor.call("years", 1);
        poor.is(-5, "decades", 1, 0, 2);
    }

    /** First draws of 64 and then of 9, worked out apart: cells 0, 6, 57, 57, 0, 9, and fogs 4, 8, 9, 9, 4, 6. */
    private void draws() {
        int[] seeds = {0, 1, -1, Integer.MAX_VALUE, Integer.MIN_VALUE, 42};
        int[] cells = {0, 6, 57, 57, 0, 9};
        int[] fogs = {4, 8, 9, 9, 4, 6};
        for (int i = 0; i < seeds.length; i++) {
            Run x = land("tree " + cells[i] % 8 + " " + cells[i] / 8 + " 1 1;");
            x.is(0, "decades", seeds[i], 1, 1);
            Run beside = land("tree " + (cells[i] + 1) % 8 + " " + (cells[i] + 1) / 8 + " 1 1;");
            beside.is(1, "decades", seeds[i], 1, 1);
            Run fog = land("villa 0 0 0;tax far;");
            fog.is(Math.min(7, fogs[i]), "decades", seeds[i], 1, 0);
        }
        // The bits are 16838 by seed 1, 19081 by 42 and 15929 by -1.
        land("land 3 1;tree 2 0 1 1;").is(0, "decades", 1, 1, 1);
        land("land 3 1;tree 1 0 1 1;").is(0, "decades", 42, 1, 1);
        land("land 7 7;tree " + 16838 % 49 % 7 + " " + 16838 % 49 / 7 + " 1 1;").is(0, "decades", 1, 1, 1);
        land("land 7 7;tree " + 19081 % 49 % 7 + " " + 19081 % 49 / 7 + " 1 1;").is(0, "decades", 42, 1, 1);
        land("land 7 5;tree " + 15929 % 35 % 7 + " " + 15929 % 35 / 7 + " 1 1;").is(0, "decades", -1, 1, 1);
    }

    // ---- what would be

    private void hollow() {
        Run full = land("land 2 1;tree 0 0 1 1;villa 1 0 0;");
        full.is(-1, "hollow", 0);
        full.is(-1, "hollow", 1);
        Run one = land("land 1 1;");
        one.is(0, "hollow", 0);
        one.is(0, "hollow", 1);
        // All alike, then the last one less.
        Run last = land("high 7 7 9;tax 5;tax 100-high;");
        last.is(0, "hollow", 0);
        last.is(5, "hollow", 1);
        last.call("obey", 1);
        last.is(63, "hollow", 0);
        last.is(91, "hollow", 1);
        last.call("plant", 63, 1);
        last.is(0, "hollow", 0);
        last.is(100, "hollow", 1);
        last.call("undo");
        last.call("obey", -1);
        // From 9 high in the corner one sees as far as from the others.
        last.is(0, "hollow", 0);
        last.is(21, "hollow", 1);
        // A villa, without floor: kind and floor are 0; houses are those that there are.
        land("land 3 1;inn 2 0 0;tax 50+kind+floor+houses;").is(51, "hollow", 1);
        // From 2 high what is 1 high hides the end (-1 and -2/2); from a floor more it would not.
        land("land 3 1;high 1 0 1;").is(1, "hollow", 1);
        Run seventh = land("land 7 1;inn 0 0 0;inn 1 0 0;inn 2 0 0;inn 3 0 0;inn 4 0 0;inn 5 0 0;");
        seventh.is(6, "hollow", 0);
        seventh.is(1, "hollow", 1);
        seventh.is(6, "count", 3);
    }

    private void sale() {
        Run x = land("land 2 2;villa 1 1 0;");
        // Views of 1: up, left, up and left.
        for (int direction : new int[] {0, 6, 7}) {
            x.is(direction, "sale", 0);
            x.call("sell", 0, direction);
        }
        x.is(-1, "sale", 0);
        for (int direction = 1; direction < 6; direction++) {
            x.call("sell", 0, direction);
        }
        x.is(255, "house", 0, 5);
        x.is(-1, "sale", 0);
        // The longest view, of like ones the least.
        Run longest = land("villa 7 0 0;");
        longest.is(4, "sale", 0);
        longest.call("sell", 0, 4);
        longest.is(5, "sale", 0);
        Run up = land("villa 3 7 0;");
        up.is(0, "sale", 0);
        // Each house's own views.
        Run second = land("land 2 1;villa 0 0 0;villa 1 0 0;");
        second.call("sell", 0, 2);
        second.is(-1, "sale", 0);
        second.is(6, "sale", 1);
        // What is sold stays so: the view of 5 does not come back for that of 1.
        Run sold = land("land 7 2;blind 0 1 0;villa 5 0 0;tax far;");
        sold.call("sell", 1, 6);
        sold.call("sell", 1, 5);
        sold.call("sell", 1, 4);
        sold.call("sell", 1, 3);
        sold.is(1, "house", 1, 7);
        sold.is(2, "sale", 1);
        // As much as now, or more, is not less.
        land("land 5 1;villa 2 0 0;tax far;").is(-1, "sale", 0);
        land("villa 0 0 0;tax 99-miles;").is(-1, "sale", 0);
        land("villa 0 0 0;tax 5;").is(-1, "sale", 0);
        land("villa 0 0 0;tax 2000-miles;").is(-1, "sale", 0);
        land("blind 0 0 0;").is(-1, "sale", 0);
        land("land 1 1;villa 0 0 0;").is(-1, "sale", 0);
    }

    private void shade() {
        // A barn of b hides what stands at 2 and twice b at most behind it.
        int[] least = {0, 1, 1, 2, 2, 3, 3, 4, 4, 5, 5, 0, 0};
        for (int stand = 2; stand <= 14; stand++) {
            String last = stand <= 9 ? "high 2 0 " + stand + ";" : "high 2 0 9;tree 2 0 " + (stand - 9) + " 9;";
            Run x = land("land 3 1;villa 0 0 0;inn 1 0 0;" + last);
            x.is(least[stand - 2], "shade", 0, 1);
            // Whatever it is now.
            x.call("barn", 1, 5);
            x.is(least[stand - 2], "shade", 0, 1);
            x.is(5, "house", 1, 4);
        }
        // By such a law it would be least without, or by the highest.
        land("land 3 1;villa 0 0 0;inn 1 0 0;high 2 0 4;tax 9-miles;").is(0, "shade", 0, 1);
        Run hidden = land("land 3 1;villa 0 0 0;inn 2 0 0;high 1 0 4;tax 9-miles;");
        // Over 4 (2) the inn is seen from 7 on: 2 and 5.
        hidden.is(5, "shade", 0, 1);
        land("land 3 1;villa 0 0 0;inn 2 0 0;tax 5;").is(0, "shade", 0, 1);
        land("land 3 1;blind 0 0 0;inn 2 0 0;").is(0, "shade", 0, 1);
    }

    private void dearest() {
        Run x = land("villa 0 0 0;tax year;tax 5;tax 30-year;");
        x.illegal("dearest", 0);
        x.is(0, "dearest", 1);
        x.is(1, "dearest", 2);
        x.is(19, "dearest", 20);
        x.illegal("dearest", 21);
        x.call("obey", 1);
        x.is(0, "dearest", 20);
        x.call("obey", 2);
        x.is(0, "dearest", 20);
        x.call("obey", 0);
        x.call("years", 3);
        x.is(3, "dearest", 1);
        x.is(22, "dearest", 20);
        x.is(3, "count", 6);
        // All together: fogs of 1, 3, 2, 3.
        Run fogs = land("villa 0 0 0;inn 7 7 0;fog 1 3 2 3;");
        fogs.is(1, "dearest", 4);
        fogs.call("years", 2);
        fogs.is(2, "dearest", 1);
        fogs.is(3, "dearest", 2);
        // Without houses none pays, and the first of like ones is this one.
        Run none = fresh();
        none.call("years", 5);
        none.is(5, "dearest", 20);
        // The last year of all, and beyond it.
        Run late = land("villa 0 0 0;tax year=999;tax year=1000;");
        for (int i = 0; i < 49; i++) {
            late.call("years", 20);
        }
        late.is(999, "dearest", 20);
        late.call("years", 19);
        late.is(999, "dearest", 1);
        late.call("obey", 1);
        late.is(1000, "dearest", 2);
    }
}

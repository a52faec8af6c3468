/** Edges of acts, and of undoing them. */
final class ActEdges extends Edges {
    ActEdges(Check check, Document document) {
        super(check, document);
    }

    @Override
    void all() {
        under("What it is");
        of("An object is used for at most 512 calls after it has been made", this::fiveHundredAndTwelveCalls);
        under("Terms");
        of("ACTS (at most 40 are kept, the latest ones)", this::fortyActs);
        of("YEARS go by (1 to 20)", this::oneToTwentyYears);
        of("a TREE is PLANTED (1 high; there may be 12) in a CELL without TREE or HOUSE", this::planted);
        of("one is FELLED (numbers of others stay; it is none any more)", this::felled);
        of("a FLOOR becomes another (-3 to 3)", this::floors);
        of("a BARN does (0 to 5)", this::barns);
        of("a view is SOLD (it may be SOLD once)", this::soldOnce);
        of("the LAW in force becomes another, or none.", this::lawInForce);
        of("They are UNDONE, the last one first.", this::lastOneFirst);
        of("STATUS: how many calls were refused: 0 of TEXTS with a FAULT, 1 of ACTS, 2 of RETURNS.", this::refused);
    }

    private void fiveHundredAndTwelveCalls() {
        Run x = land("villa 0 0 9;");
        int barn = 0;
        while (x.callsLeft() > 4) {
            int next = (barn + 1) % 6;
            x.is(barn, "barn", 0, next);
            barn = next;
        }
        x.is(40, "count", 9);
        x.is(39, "undo");
        x.is((barn + 5) % 6, "house", 0, 4);
        x.is(1, "years", 1);
        check.same("calls left", 0, x.callsLeft());
    }

    private void fortyActs() {
        for (int many : new int[] {0, 1, 39, 40, 41, 79, 80, 81, 100}) {
            Run x = land("villa 0 0 9;");
            for (int i = 0; i < many; i++) {
                x.call("floor", 0, (i + 1) % 7 - 3);
            }
            int kept = Math.min(many, 40);
            x.is(kept, "count", 9);
            for (int left = kept - 1; left >= 0; left--) {
                x.is(left, "undo");
                int done = many - kept + left;
                x.is(done == 0 ? 0 : done % 7 - 3, "house", 0, 3);
            }
            x.is(-1, "undo");
            x.is(0, "count", 9);
            // There is room for as many again.
            for (int i = 0; i < 41; i++) {
                x.call("barn", 0, i % 6);
            }
            x.is(40, "count", 9);
        }
        // One that is refused puts none of them out.
        Run x = land("villa 0 0 9;");
        for (int i = 0; i < 40; i++) {
            x.call("years", 1);
        }
        x.is(-1, "years", 0);
        x.is(-9, "floor", 0, 4);
        x.is(40, "count", 9);
        for (int left = 39; left >= 0; left--) {
            x.is(left, "undo");
        }
        x.is(0, "count", 6);
        x.is(9, "house", 0, 2);
    }

    private void oneToTwentyYears() {
        Run x = land("villa 0 0 99;tree 1 0 1 9;tax 1;");
        x.is(-1, "years", 0);
        x.is(1, "years", 1);
        x.is(98, "house", 0, 2);
        x.is(21, "years", 20);
        x.is(78, "house", 0, 2);
        x.is(9, "tree", 0, 1);
        x.is(-1, "years", 21);
        x.is(21, "count", 6);
        x.is(2, "count", 9);
        // Twenty at once are one act.
        x.is(1, "undo");
        x.is(1, "count", 6);
        x.is(98, "house", 0, 2);
        x.is(2, "tree", 0, 1);
    }

    private void planted() {
        Run x = land("land 8 2;tree 0 0 5 5;villa 1 0 0;inn 2 0 0;blind 3 0 0;");
        for (int taken = 0; taken < 4; taken++) {
            x.is(-1, "plant", taken, 5);
        }
        for (int i = 1; i < 12; i++) {
            x.is(i, "plant", i + 3, 9);
            x.is(1, "tree", i, 1);
            x.is(9, "tree", i, 2);
            x.is(1, "cell", i + 3, 1);
        }
        x.is(12, "count", 2);
        x.is(-1, "plant", 15, 9);
        x.is(12, "count", 2);
        x.is(5, "count", 13);
        x.is(4, "fell", 1);
        x.is(1, "plant", 4, 9);
        x.is(-1, "plant", 4, 9);
        // Where a tree was told there may be another one behind it.
        Run full = land("land 1 1;tree 0 0 5 5;");
        full.is(-1, "plant", 0, 1);
        full.call("fell", 0);
        full.is(0, "plant", 0, 1);
    }

    private void felled() {
        Run x = land(trees(12));
        for (int tree : new int[] {0, 11, 5}) {
            x.is(tree, "fell", tree);
            x.noSuch("tree", tree, 0);
            x.noSuch("fell", tree);
            x.noSuch("felling", tree);
            x.is(-1, "cell", tree, 2);
            x.is(0, "cell", tree, 1);
        }
        x.is(9, "count", 2);
        for (int tree = 1; tree < 11; tree++) {
            if (tree != 5) {
                x.is(tree, "tree", tree, 0);
                x.is(tree, "cell", tree, 2);
            }
        }
        // It does not grow, and the last one leaves none.
        x.call("years", 3);
        x.is(0, "cell", 5, 1);
        Run one = land("tree 7 7 1 9;");
        one.is(63, "fell", 0);
        one.is(0, "count", 2);
    }

    private void floors() {
        Run x = land("villa 0 0 0;inn 7 7 0;");
        int was = 0;
        for (int floor = -3; floor <= 3; floor++) {
            x.is(was, "floor", 0, floor);
            x.is(floor, "house", 0, 3);
            was = floor;
        }
        x.is(-9, "floor", 0, 4);
        x.is(-9, "floor", 0, -4);
        x.is(3, "house", 0, 3);
        x.is(0, "house", 1, 3);
        x.is(7, "count", 9);
        x.is(2, "count", 13);
    }

    private void barns() {
        Run x = land("villa 0 0 0;inn 7 7 0;");
        int was = 0;
        for (int barn = 5; barn >= 0; barn--) {
            x.is(was, "barn", 0, barn);
            x.is(barn, "house", 0, 4);
            was = barn;
        }
        x.is(0, "barn", 0, 5);
        x.is(-1, "barn", 0, 6);
        x.is(-1, "barn", 0, -1);
        x.is(5, "house", 0, 4);
        x.is(0, "house", 1, 4);
        x.is(7, "count", 9);
        x.is(2, "count", 13);
    }

    private void soldOnce() {
        Run x = land("villa 3 3 0;villa 0 0 0;blind 7 7 0;");
        int sold = 0;
        for (int direction = 0; direction < 8; direction++) {
            x.is(1, "sell", 0, direction);
            x.is(0, "sell", 0, direction);
            sold |= 1 << direction;
            x.is(sold, "house", 0, 5);
        }
        x.is(0, "house", 0, 6);
        x.is(0, "house", 1, 5);
        x.is(8, "count", 9);
        x.is(8, "count", 13);
        // Also where there is nothing to see, out of the land or for the blind; undone it may be sold again.
        x.is(1, "sell", 1, 0);
        x.is(1, "sell", 2, 7);
        x.call("undo");
        x.is(0, "house", 2, 5);
        x.is(1, "sell", 2, 7);
    }

    private void lawInForce() {
        Run x = land("villa 0 0 0;tax 10;tax 11;tax 12;tax 13;");
        for (int law = 3; law >= 0; law--) {
            x.is(1, "obey", law);
            x.is(law, "count", 5);
            x.is(10 + law, "count", 8);
        }
        x.is(1, "obey", -1);
        x.is(-1, "count", 5);
        x.is(21, "count", 8);
        x.is(0, "obey", 4);
        x.is(0, "obey", -2);
        x.is(-1, "count", 5);
        x.is(5, "count", 9);
        Run none = fresh();
        none.is(1, "obey", -1);
        none.is(0, "obey", 0);
        none.is(-1, "count", 5);
    }

    private void lastOneFirst() {
        Run x = land("land 4 1;villa 0 0 50;tree 2 0 3 5;tax 1;tax 2;");
        x.is(0, "floor", 0, 2);
        x.is(2, "floor", 0, -1);
        x.is(2, "years", 2);
        x.is(2, "fell", 0);
        x.is(0, "plant", 1, 7);
        x.is(1, "sell", 0, 2);
        x.is(1, "obey", 1);
        x.is(0, "barn", 0, 4);
        x.is(7, "undo");
        x.is(0, "house", 0, 4);
        x.is(1, "count", 5);
        x.is(6, "undo");
        x.is(0, "count", 5);
        x.is(4, "house", 0, 5);
        x.is(5, "undo");
        x.is(0, "house", 0, 5);
        x.is(1, "tree", 0, 0);
        x.is(4, "undo");
        x.noSuch("tree", 0, 0);
        x.is(3, "undo");
        x.is(2, "tree", 0, 0);
        x.is(5, "tree", 0, 1);
        x.is(48, "house", 0, 2);
        x.is(2, "undo");
        x.is(3, "tree", 0, 1);
        x.is(50, "house", 0, 2);
        x.is(0, "count", 6);
        x.is(-1, "house", 0, 3);
        x.is(1, "undo");
        x.is(2, "house", 0, 3);
        x.is(0, "undo");
        x.is(0, "house", 0, 3);
        x.is(-1, "undo");
    }

    private void refused() {
        Run x = fresh();
        statuses(x, 0, 0, 0);
        x.told("hill;");
        statuses(x, 1, 0, 0);
        x.told("villa 0 0 0;tree 1 0 1 1;tax 1;");
        x.told("fog;");
        statuses(x, 2, 0, 0);
        x.call("years", 0);
        x.call("plant", 0, 5);
        x.call("floor", 0, 4);
        x.call("barn", 0, 6);
        x.call("obey", 1);
        statuses(x, 2, 5, 0);
        x.call("sell", 0, 0);
        statuses(x, 2, 5, 0);
        x.call("sell", 0, 0);
        statuses(x, 2, 6, 0);
        x.call("tell", 0, 100);
        statuses(x, 2, 6, 1);
        // What throws is told by that, and what is NONE without a status counts in none.
        x.call("fell", 1);
        x.call("plant", 64, 5);
        x.call("floor", 1, 0);
        x.call("tell", 1, 0);
        x.call("duchy", 1);
        x.call("restore");
        x.call("undo");
        x.is(-1, "undo");
        x.call("firs", 1, 0);
        x.call("mildest", 9999);
        x.call("obey", 0);
        statuses(x, 2, 6, 1);
    }

    private void statuses(Run x, int texts, int acts, int returns) {
        x.is(texts, "count", 12);
        x.is(acts, "count", 13);
        x.is(returns, "count", 14);
    }
}

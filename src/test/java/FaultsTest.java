/** Promises 2 to 4: the tape, texts and the faults in them. */
public final class FaultsTest {
    private static final Check check = new Check();

    public static void main(String[] args) {
        tape();
        lines();
        numbers();
        cellsTwice();
        limits();
        laws();
        depths();
        values();
        whatStays();
        check.end("FaultsTest");
    }

    private static void tape() {
        HorizonDues x = new HorizonDues();
        for (int i = 1; i <= 35; i++) {
            check.same("feed", 20 * i, x.feed(0x74617820, 0x313b2020, 0x20202020, 0x20202020, 0x20202020));
        }
        check.same("feed beyond 700", -1, x.feed(0, 0, 0, 0, 0));
        check.same("tape", 700, x.count(11));
        check.due("duchy(701)", Check.ILLEGAL, () -> x.duchy(701));
        check.due("duchy(-1)", Check.ILLEGAL, () -> x.duchy(-1));
        check.same("tape after refusals", 700, x.count(11));
        check.same("no fault yet", -1, x.fault());
        check.same("five laws on a full tape", 2, x.duchy(700));
        check.same("place", 80, x.fault());
        check.same("tape is empty", 0, x.count(11));
        check.due("duchy(1) of an empty tape", Check.ILLEGAL, () -> x.duchy(1));
        check.same("the place stays", 80, x.fault());
        check.same("duchy(0)", 0, x.duchy(0));
        check.same("no fault", -1, x.fault());
        check.same("status", 1, x.count(12));
        // Only the first n bytes count, and the rest is gone.
        Check.put(x, "tax 1;tax 2;");
        check.same("a part of the tape", 0, x.duchy(6));
        check.same("one law", 1, x.count(4));
        check.same("rest is gone", 0, x.count(11));
        // A token ends where the text does, whatever stands behind it on the tape.
        Check.put(x, "fog 12;");
        check.same("a number cut off", 1, x.duchy(5));
        check.same("its end", 5, x.fault());
        Check.put(x, "fogs 1;");
        check.same("a word cut off", 1, x.duchy(3));
        check.same("its end", 3, x.fault());
        check.same("a word at the very end", 1, Check.told(x, " ".repeat(691) + "tax miles"));
        check.same("its end", 700, x.fault());
        // The highest byte comes first, and bytes above 127 are no tokens.
        x.feed(0x66ff6f67, 0, 0, 0, 0);
        check.same("strange byte", 1, x.duchy(20));
        check.same("place of it", 0, x.fault());
        x.feed(0x666f67ff, 0, 0, 0, 0);
        check.same("strange byte behind", 1, x.duchy(20));
        check.same("place of that", 3, x.fault());
    }

    private static void lines() {
        check.fine("");
        check.fine("  \n ");
        check.fine("land 1 1;");
        check.fine(" \n land\n1 8 ;");
        check.fine("land8 0008;high7 7 9;");
        check.at(1, "land @; ");
        check.at(1, "land 1@;");
        check.at(1, "land 1 1 @1;");
        check.at(1, "land 1 1;@land 1 1;");
        check.at(1, "fog 1;@land 1 1;");
        check.at(1, "@;");
        check.at(1, "@lands 1 1;");
        check.at(1, "@sand 1 1;");
        check.at(1, "@lant 1 1;");
        check.at(1, "@wax 1;");
        check.at(1, "@Land 1 1;");
        check.at(1, "@miles;");
        check.at(1, "@1;");
        check.at(1, "@12345;");
        check.at(1, "@\t");
        check.at(1, "high 0 0 1@\t;");
        check.at(1, "high 0 0@.1;");
        check.at(1, "high 0 0 @-1;");
        check.at(1, "high @x 0 1;");
        check.at(1, "high 0 @;");
        check.at(1, "high 0 0 1 @2;");
        check.at(1, "high 0 0 1 @12345;");
        check.at(1, "tree 0 0 1@;");
        check.at(1, "tree 0 0 1 1@");
        check.at(1, "tree 0 0 1 1   @");
        check.at(1, "tree@");
        check.at(1, "villa 0 0@;");
        check.at(1, "inn 0 0 5@fog");
        check.at(1, "fog @;");
        check.at(1, "fog 1 2 @tax");
        check.at(1, "fog 1 2 @(");
        check.fine("fog 1 2 3 4 5 6 7 8;");
        check.fine("villa0 0 0;inn1 0 999;blind2 0 5;");
    }

    private static void numbers() {
        check.at(2, "land @0 1;");
        check.at(2, "land @9 1;");
        check.at(2, "land @00001 1;");
        check.at(2, "land 1 @0;");
        check.at(2, "land 1 @9;");
        check.at(2, "land 3 2;high @3 0 1;");
        check.at(2, "land 3 2;high 0 @2 1;");
        check.at(2, "high 0 0 @10;");
        check.at(2, "high 0 0 @99999;");
        check.fine("high 0 0 0;");
        check.at(2, "tree @8 0 1 1;");
        check.at(2, "tree 0 @8 1 1;");
        check.at(2, "tree 0 0 @0 1;");
        check.at(2, "tree 0 0 @10 10;");
        check.at(2, "tree 0 0 2 @1;");
        check.at(2, "tree 0 0 9 @10;");
        check.fine("tree 0 0 9 9;");
        check.fine("tree 0 0 1 1;");
        check.at(2, "villa @8 0 1;");
        check.at(2, "inn 0 @8 1;");
        check.at(2, "blind 0 0 @1000;");
        check.at(2, "blind 0 0 @00000;");
        check.at(2, "fog @0;");
        check.at(2, "fog 9 @10;");
        check.at(2, "fog 9 @123456789012345678901;");
        // The first along the text counts, whichever is less.
        check.at(2, "high @8 x 1;");
        check.at(1, "high @x 8 1;");
    }

    private static void cellsTwice() {
        check.at(4, "high 1 2 3;high 1 @2 3;");
        check.at(4, "tree 1 2 3 3;tree 1 @2 3 3;");
        check.at(4, "tree 1 2 3 3;inn 1 @2 3;");
        check.at(4, "blind 1 2 3;villa 1 @2 3;");
        check.at(4, "blind 1 2 3;tree 1 @2 x 3;");
        check.at(4, "high 1 0 0;high 1 @0 0;");
        check.at(4, "tree 1 2 3 3;inn 2 2 3;villa 1 @2 3;");
        check.at(4, "inn 1 2 3;tree 2 2 3 3;villa 1 @2 3;");
        check.at(4, "high 1 2 3;high 2 2 3;high 1 @2 3;");
        check.fine("tree 1 2 3 3;high 1 2 3;");
        check.fine("high 1 2 3;inn 1 2 3;");
        check.fine("inn 1 2 3;high 1 2 3;");
        check.fine("high 1 2 3;high 2 1 3;");
    }

    private static void limits() {
        StringBuilder trees = new StringBuilder();
        for (int i = 0; i < 12; i++) {
            trees.append("tree ").append(i % 8).append(' ').append(i / 8).append(" 1 1;");
        }
        check.fine(trees.toString());
        check.at(2, trees + "@tree 0 0 1 1;");
        check.at(2, trees + "@tree");
        StringBuilder houses = new StringBuilder();
        for (int i = 0; i < 6; i++) {
            houses.append(i % 2 == 0 ? "inn " : "blind ").append(i).append(" 0 7;");
        }
        check.fine(houses.toString());
        check.at(2, houses + "@villa 7 7 1;");
        check.fine("tax 1;tax 2;tax 3;tax 4;");
        check.at(2, "tax 1;tax 2;tax 3;tax 4;@tax;");
        check.at(2, "fog 1 1 1 1 1 1 1 1 @1 1;");
        check.at(2, "fog 1 1 1 1 1 1 1 1 @0;");
        check.at(1, "fog 1 1 1 1 1 1 1 1 @fog;");
        check.at(5, "fog 1;@fog;");
        check.at(5, "fog 1;tax 1;@fog 1;");
    }

    private static void laws() {
        check.at(1, "tax @;");
        check.at(1, "tax @");
        check.at(1, "tax @)");
        check.at(1, "tax @* 2;");
        check.at(1, "tax @-1;");
        check.at(1, "tax 1 @2;");
        check.at(1, "tax 1 @12345;");
        check.at(1, "tax 1 @miles;");
        check.at(1, "tax 1 @not 1;");
        check.at(1, "tax 1 @(2);");
        check.at(1, "tax (1@;");
        check.at(1, "tax (1)@);");
        check.at(1, "tax (@);");
        check.at(1, "tax (1@");
        check.at(1, "tax 1 @# 2;");
        check.at(1, "tax 1 + @# 2;");
        check.at(1, "tax 1 < 2 @< 3;");
        check.at(1, "tax 1 = 2 + 3 * 4 @< 3;");
        check.at(1, "tax not 1 = 2 @= 3;");
        check.at(1, "tax (1 < 2 @= 3);");
        check.at(1, "tax 1 + @+ 2;");
        check.at(2, "tax @12345;");
        check.at(2, "tax 1 + @00000;");
        check.fine("tax 9999 * 9999;");
        check.fine("tax (1 < 2) < 3;");
        check.fine("tax 1 < (2 < 3);");
        check.fine("tax 1 < 2 and 3 < 4 or 5 = 6;");
        check.fine("tax 1 < 2 or not 3 < 4;");
        check.fine("tax not not 1 + 2;");
        check.fine("tax 1 and not 2;");
        check.fine("tax 1*2/3+4-5<6 and 7=8 or 9;");
        check.fine("tax(miles)+(far)*2;");
    }

    private static void depths() {
        check.fine("tax (((((1)))));");
        check.fine("tax (((((not 1)))));");
        check.at(2, "tax ((((((@1))))));");
        check.at(2, "tax ((((((@12345))))));");
        check.at(2, "tax ((((((@miles))))));");
        check.at(2, "tax ((((((@what))))));");
        check.at(2, "tax ((((((@not 1))))));");
        check.at(2, "tax ((((((@and 1))))));");
        check.at(2, "tax ((((((@(1)))))));");
        check.at(1, "tax ((((((@))))));");
        check.at(1, "tax ((((((@+1))))));");
        check.at(1, "tax ((((((@#))))));");
        check.at(1, "tax ((((((@");
        check.at(2, "tax 1 + (2 * (3 - (4 + (5 + (6 + (@7))))));");
        check.fine("tax (((((1))))) + (((((1)))));");
        check.fine("tax not not not not not not 1;");
        check.at(2, "tax not not not not not not @not 1;");
        check.at(2, "tax 1 and not not not not not not @not 1;");
        check.fine("tax not not not not not not 1 or not not not not not not 1;");
        check.fine("tax not not not not not not (not not not not not not 1);");
        check.at(2, "tax (((((not not not not not not (@1))))));");
    }

    private static void values() {
        check.fine("tax miles+far+high+kind+year+houses+floor;");
        check.at(3, "tax @view;");
        check.at(3, "tax @mile;");
        check.at(3, "tax @piles;");
        check.at(3, "tax @z;");
        check.at(3, "tax @a;");
        check.at(1, "tax @`;");
        check.at(1, "tax @{;");
        check.at(1, "tax 1@:;");
        check.at(3, "tax @miless;");
        check.at(3, "tax @tax;");
        check.at(3, "tax @and;");
        check.at(3, "tax @or 1;");
        check.at(3, "tax not @and;");
        check.at(3, "tax 1 + @not 2;");
        check.at(3, "tax 1 < @not 2;");
        check.at(3, "tax 1 = @not not not not not not not 2;");
        check.at(3, "tax 1 * @land;");
        check.at(3, "tax 1 and @house;");
        check.at(3, "tax (@view);");
        check.at(1, "tax @Miles;");
        check.at(1, "tax miles@2;");
        check.at(1, "tax 2@miles;");
    }

    private static void whatStays() {
        HorizonDues x = Check.landOf("land 3 1;villa 0 0 5;tax miles;tree 2 0 1 3;");
        x.firs(1, 2);
        x.round(1);
        x.tell(0, 1);
        x.years(1);
        x.image();
        check.same("a fault", 1, Check.told(x, "villa"));
        check.same("place", 5, x.fault());
        check.same("wide", 3, x.count(0));
        check.same("acts", 1, x.count(9));
        check.same("returns", 1, x.count(10));
        check.same("stop stays", 0, x.stop(0));
        check.same("the image stays", 1, Check.of(x.restore()));
        check.same("a text", 0, Check.told(x, "villa 0 0 5;"));
        check.same("wide without", 8, x.count(0));
        check.same("no acts", 0, x.count(9));
        check.same("no returns", 0, x.count(10));
        check.same("no law", -1, x.count(5));
        check.same("no trees", 0, x.count(2));
        check.same("year 0", 0, x.count(6));
        check.same("status stays", 1, x.count(12));
        check.same("no image", 0, Check.of(x.restore()));
        check.same("nothing to undo", -1, x.undo());
        check.due("no firs", Check.NO_SUCH, () -> x.fir(0));
        check.due("no stops", Check.NO_SUCH, () -> x.stop(0));
    }
}

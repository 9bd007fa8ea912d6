/** Sentences on COVERED LINES, PIECES and THE WAY. */
final class WayBounds extends Sentences {
    /** Two of these go over each second CELL of a row of 12, from (0, 5) on: at x 1, 3, 5 and 7, 9, 11. */
    private static final String COMBS = "l1,0,d11r2u10r2d11;l7,0,d11r2u10r2d11;";

    static void run() {
        coveredOrNot();
        cellsOfACoveredOne();
        pieces();
        piecesOfNothing();
        pieceIsLaid();
        wholeOrCut();
        aslant();
        aslantNot();
        cuts();
        noMoreThanTheBag();
        allStonesOfTheBag();
        allStonesOfASize();
        asManyPiecesAsStones();
        fewestCuts();
        fewestStones();
        longerAhead();
        wholeAhead();
        lesserSizeAhead();
        outOfTheBag();
    }

    private static void coveredOrNot() {
        sentence("A LINE is COVERED (in a COLOUR) or not; at first none is.");
        StoneFloors x = new StoneFloors();
        dueNoneCovered(x);
        for (int colour = 0; colour < 3; colour++) {
            due("cover(1, " + colour + ")", x.cover(1, colour), 0);
            due("line(1, 3)", x.line(1, 3), colour);
            due("count(9)", x.count(9), 1);
            x.takeUp(1);
        }
        tell(x, "l0,0,r2;l0,2,r2;l0,4,r2;");
        x.cover(1, 2);
        x.lay();
        dueNoneCovered(x);
    }

    private static void dueNoneCovered(StoneFloors x) {
        due("count(9)", x.count(9), 0);
        for (int i = 0; i < 3; i++) {
            due("line(" + i + ", 3)", x.line(i, 3), NONE);
            due("line(" + i + ", 4)", x.line(i, 4), 0);
        }
    }

    private static void cellsOfACoveredOne() {
        sentence("Each CELL of a COVERED one is its, but those that were another one's when it was COVERED: they stay the"
                + " other one's.");
        StoneFloors x = laid("l0,0,r5;l2,0,d3;l2,0,r1;");
        x.cover(0, 0);
        x.cover(1, 1);
        x.cover(2, 2);
        due("line(0, 4)", x.line(0, 4), 5);
        due("line(1, 4)", x.line(1, 4), 2);
        due("line(2, 4), all of it another's", x.line(2, 4), 0);
        due("whose(0, 0)", x.whose(0, 0), 0);
        due("whose(4, 0)", x.whose(4, 0), 0);
        due("whose(2, 0)", x.whose(2, 0), 0);
        due("whose(2, 1)", x.whose(2, 1), 1);
        due("whose(2, 2)", x.whose(2, 2), 1);
        x.takeUp(0);
        due("whose(2, 0), as the other is taken up", x.whose(2, 0), NONE);
        due("line(1, 4)", x.line(1, 4), 2);
        due("line(2, 4)", x.line(2, 4), 0);
        x.cover(0, 1);
        due("whose(2, 0)", x.whose(2, 0), 0);
        due("line(0, 4)", x.line(0, 4), 5);
        StoneFloors y = laid("l0,0,r5;l2,0,d3;");
        y.cover(1, 0);
        y.cover(0, 0);
        due("whose(2, 0)", y.whose(2, 0), 1);
        due("line(0, 4)", y.line(0, 4), 4);
        due("line(1, 4)", y.line(1, 4), 3);
    }

    private static void pieces() {
        sentence("PIECES of a LINE that is not COVERED: in each of its RUNS the rows, as long as can be, of CELLS side by"
                + " side that are no other one's now");
        duePieces(laid("l0,0,r12d1r1;"), 0, 12, 1, 1);
        duePieces(laid("l0,0,r1;"), 0, 1);
        StoneFloors comb = laid("l0,5,r12;" + COMBS);
        duePieces(comb, 0, 12);
        comb.cover(1, 0);
        duePieces(comb, 0, 1, 1, 1, 6);
        comb.cover(2, 1);
        duePieces(comb, 0, 1, 1, 1, 1, 1, 1);
        comb.takeUp(1);
        duePieces(comb, 0, 7, 1, 1);
        comb.undo();
        duePieces(comb, 0, 1, 1, 1, 1, 1, 1);
        // The CELL of another one first, amid, and last in a RUN.
        for (int at = 0; at < 4; at++) {
            StoneFloors x = laid("l0,0,r4d2;l" + at + ",0,d1;");
            x.cover(1, 0);
            if (at == 0 || at == 3) {
                duePieces(x, 0, 3, 2);
            } else {
                duePieces(x, 0, at, 3 - at, 2);
            }
        }
    }

    private static void piecesOfNothing() {
        sentence("(a RUN all of whose CELLS are has none); in the order of the LINE.");
        StoneFloors x = laid("l0,0,r3d4r2;l0,0,r3;l2,1,d4r2;");
        duePieces(x, 0, 3, 4, 2);
        x.cover(1, 0);
        duePieces(x, 0, 4, 2);
        x.cover(2, 1);
        duePieces(x, 0);
        x.takeUp(1);
        duePieces(x, 0, 3);
        StoneFloors amid = laid("l0,0,r3d4r2;l2,1,d4;");
        amid.cover(1, 0);
        duePieces(amid, 0, 3, 2);
        // The order is the LINE's, whichever way it goes.
        duePieces(laid("l9,9,l4u3l2;"), 0, 4, 3, 2);
        StoneFloors back = laid("l9,9,l6;l7,9,u1;");
        back.cover(1, 0);
        duePieces(back, 0, 2, 3);
    }

    private static void pieceIsLaid() {
        sentence("A PIECE of n CELLS is laid by STONES one behind the other, at least one, a JOINT between two of them,"
                + " that together with the JOINTS are n CELLS long.");
        for (int joint = 0; joint <= 2; joint++) {
            for (int n = 1; n <= 12; n++) {
                StoneFloors x = laid("z1,2,3;j" + joint + ";b0,6,0,0;l0,0,r" + n + ";");
                int stones = (n + joint) / (1 + joint);
                boolean fits = stones * (1 + joint) == n + joint && stones <= 6;
                due("way(0, 0, -2) over " + n + " with joint " + joint, x.way(0, 0, -2), fits ? stones : NONE);
                due("way(0, 0, -1)", x.way(0, 0, -1), fits ? 0 : NONE);
            }
        }
        // A PIECE has a STONE at least; between two PIECES there is no JOINT.
        dueNoWay(laid("b0,0,0,0;l0,0,r1;"), 0, 0);
        dueWay(laid("z1,2,3;j2;b0,6,0,0;l0,0,r1d1;"), 0, 0, 0, whole(1, 0), whole(1, 0));
        dueWay(laid("j2;b0,0,2,0;l0,0,r8;"), 0, 0, 0, whole(3, 1), whole(3, 1));
        dueWay(laid("j2;b0,0,2,0;l0,0,r7;"), 0, 0, 1, whole(3, 1), cut(2, 1));
        dueNoWay(laid("j2;b0,0,2,0;l0,0,r9;"), 0, 0);
    }

    private static void wholeOrCut() {
        sentence("Each STONE is whole (of a SIZE), or CUT: of any SIZE, to any length from 1 to that SIZE less 1; what is"
                + " cut off is thrown away.");
        for (int size = 0; size < 3; size++) {
            String bag = "z7,8,9;b0," + (size == 0 ? 1 : 0) + "," + (size == 1 ? 1 : 0) + "," + (size == 2 ? 1 : 0) + ";";
            int whole = 7 + size;
            for (int n = 1; n < whole; n++) {
                StoneFloors x = laid(bag + "l0,0,r" + n + ";");
                dueWay(x, 0, 0, 1, cut(n, size));
                x.cover(0, 0);
                due("count(6)", x.count(6), whole - n);
            }
            StoneFloors x = laid(bag + "l0,0,r" + whole + ";");
            dueWay(x, 0, 0, 0, whole(whole, size));
            x.cover(0, 0);
            due("count(6)", x.count(6), 0);
            dueNoWay(laid(bag + "l0,0,r" + (whole + 1) + ";"), 0, 0);
        }
        // Nothing can be cut off a STONE of SIZE 1; one of SIZE 2 can be cut to 1 alone.
        dueWay(laid("z1,2,3;b0,1,0,0;l0,0,r1;"), 0, 0, 0, whole(1, 0));
        dueWay(laid("z1,2,3;b0,0,1,0;l0,0,r1;"), 0, 0, 1, cut(1, 1));
        dueNoWay(laid("z1,2,3;j2;b0,2,0,0;l0,0,r3;"), 0, 0);
        dueWay(laid("j2;b0,6,0,0;l0,0,r7;"), 0, 0, 3, cut(1, 0), cut(1, 0), cut(1, 0));
    }

    private static void aslant() {
        sentence("The last STONE of a PIECE that ends with the last CELL of its RUN, if there is a BEND behind, is cut"
                + " ASLANT");
        dueWay(laid("b0,0,6,0;l0,0,r3d3;"), 0, 0, 1, whole(3, 1), whole(3, 1));
        dueWay(laid("b0,0,0,6;l0,0,r5d5;"), 0, 0, 1, whole(5, 2), whole(5, 2));
        // Of several STONES the last one alone.
        dueWay(laid("b0,0,6,0;l0,0,r9d3;"), 0, 0, 1, whole(3, 1), whole(3, 1), whole(3, 1), whole(3, 1));
        dueWay(laid("l0,0,r5d5;"), 0, 0, 0, whole(3, 1), whole(2, 0), whole(5, 2));
        // The RUN's first CELL is another one's.
        StoneFloors first = laid("b0,0,6,0;l0,0,r4d3;l0,0,d1;");
        first.cover(1, 1);
        dueWay(first, 0, 0, 1, whole(3, 1), whole(3, 1));
        // All of the RUN behind the BEND is another one's: the BEND is still there.
        StoneFloors behind = laid("b0,0,6,0;l0,0,r3d2;l2,1,d2;");
        behind.cover(1, 1);
        dueWay(behind, 0, 0, 1, whole(3, 1));
        // The last RUN has none behind.
        dueWay(laid("b0,0,6,0;l0,0,r3;"), 0, 0, 0, whole(3, 1));
        // The last CELL of the RUN is another one's.
        StoneFloors last = laid("b0,0,6,0;l0,0,r4d3;l3,0,r1;");
        last.cover(1, 1);
        dueWay(last, 0, 0, 0, whole(3, 1), whole(3, 1));
    }

    private static void aslantNot() {
        sentence(", but if it is a whole one of SIZE A.");
        StoneFloors x = laid("b0,2,0,0;b1,1,1,0;l0,0,r2d2;l0,9,r1d2;");
        dueWay(x, 0, 0, 0, whole(2, 0), whole(2, 0));
        dueWay(x, 0, 1, 1, whole(2, 0), cut(2, 1));
        // A CUT one of SIZE A is cut ASLANT.
        dueWay(x, 1, 0, 2, cut(1, 0), whole(2, 0));
        x.cover(0, 0);
        due("takeUp(0)", x.takeUp(0), 2);
        StoneFloors one = laid("z1,2,3;b0,6,0,0;l0,0,r1d1r1d1r1;");
        due("way(0, 0, -1)", one.way(0, 0, -1), 0);
    }

    private static void cuts() {
        sentence("CUTS are: one for each STONE that is CUT, one for each that is cut ASLANT (one that is both: two).");
        due("none", laid("b0,0,6,0;l0,0,r3;").way(0, 0, -1), 0);
        due("one that is CUT", laid("b0,0,6,0;l0,0,r2;").way(0, 0, -1), 1);
        due("one that is ASLANT", laid("b0,0,6,0;l0,0,r3d3;").way(0, 0, -1), 1);
        due("one that is both", laid("b0,0,6,0;l0,0,r2d3;").way(0, 0, -1), 2);
        due("one that is both, one that is CUT", laid("b0,0,6,0;l0,0,r2d2;").way(0, 0, -1), 3);
        StoneFloors x = laid("b0,0,6,0;l0,0,r2d1r2d1r1;");
        due("four that are both, one that is CUT", x.way(0, 0, -1), 9);
        due("cover(0, 0)", x.cover(0, 0), 9);
        due("line(0, 6)", x.line(0, 6), 9);
        due("count(5)", x.count(5), 9);
    }

    private static void noMoreThanTheBag() {
        sentence("A WAY of a LINE in a COLOUR: all its PIECES laid one behind the other, with no more STONES of each SIZE"
                + " (CUT ones are of the SIZE that they were) than the BAG of that COLOUR has.");
        String line = "l0,0,r6;";
        dueWay(laid("b0,3,0,0;" + line), 0, 0, 0, whole(2, 0), whole(2, 0), whole(2, 0));
        dueNoWay(laid("b0,2,0,0;" + line), 0, 0);
        dueWay(laid("b0,0,2,0;" + line), 0, 0, 0, whole(3, 1), whole(3, 1));
        dueNoWay(laid("b0,0,1,0;" + line), 0, 0);
        dueWay(laid("b0,1,0,1;" + line), 0, 0, 1, whole(5, 2), cut(1, 0));
        dueNoWay(laid("b0,0,0,1;" + line), 0, 0);
        // All PIECES are laid out of one BAG.
        dueWay(laid("b0,2,0,0;l0,0,r2d2;"), 0, 0, 0, whole(2, 0), whole(2, 0));
        dueNoWay(laid("b0,1,0,0;l0,0,r2d2;"), 0, 0);
        // A CUT one is one less of the SIZE that it was.
        dueNoWay(laid("b0,1,0,0;l0,0,r1d1;"), 0, 0);
        dueWay(laid("b0,0,1,1;l0,0,r1d1;"), 0, 0, 3, cut(1, 1), cut(1, 2));
        StoneFloors comb = laid("b2,5,1,0;l0,5,r12;" + COMBS);
        comb.cover(1, 0);
        comb.cover(2, 1);
        dueWay(comb, 0, 2, 6, cut(1, 0), cut(1, 0), cut(1, 0), cut(1, 0), cut(1, 0), cut(1, 1));
        comb = laid("b2,5,0,0;l0,5,r12;" + COMBS);
        comb.cover(1, 0);
        comb.cover(2, 1);
        dueNoWay(comb, 0, 2);
        // What other BAGS have does not help.
        StoneFloors x = laid("b0,0,0,0;b1,6,6,6;b2,0,0,0;" + line);
        dueNoWay(x, 0, 0);
        dueWay(x, 0, 1, 0, whole(3, 1), whole(3, 1));
        dueNoWay(x, 0, 2);
        // All PIECES of a LINE that has none are laid without a STONE.
        StoneFloors none = laid("b1,0,0,0;l0,0,r2;l0,0,r2;");
        none.cover(0, 0);
        dueWay(none, 1, 1, 0);
    }

    private static void allStonesOfTheBag() {
        sentence("than the BAG of that COLOUR has.");
        StoneFloors x = laid("z1,2,3;l1,0,r12d12l12;");
        int a = whole(1, 0), b = whole(2, 1), c = whole(3, 2);
        dueWay(x, 0, 0, 0, c, c, c, b, a, c, c, c, b, a, b, b, b, b, a, a, a, a);
        due("cover(0, 0)", x.cover(0, 0), 0);
        due("line(0, 5)", x.line(0, 5), 18);
        dueBag(x, 0, 0, 0, 0);
        dueNoWay(laid("z1,2,3;l1,0,r12d12l12u1;"), 0, 0);
    }

    private static void allStonesOfASize() {
        sentence("with no more STONES of each SIZE (CUT ones are of the SIZE that they were)");
        int a = whole(1, 0), b = whole(2, 1), c = whole(3, 2);
        dueWay(laid("z1,2,3;b0,6,0,0;l0,0,r6;"), 0, 0, 0, a, a, a, a, a, a);
        dueNoWay(laid("z1,2,3;b0,6,0,0;l0,0,r7;"), 0, 0);
        dueNoWay(laid("z1,2,3;b0,5,0,0;l0,0,r6;"), 0, 0);
        dueWay(laid("z1,2,3;b0,0,6,0;l0,0,r12;"), 0, 0, 0, b, b, b, b, b, b);
        dueNoWay(laid("z1,2,3;b0,0,5,0;l0,0,r12;"), 0, 0);
        dueWay(laid("z1,2,3;b0,0,0,4;l0,0,r12;"), 0, 0, 0, c, c, c, c);
        dueNoWay(laid("z1,2,3;b0,0,0,3;l0,0,r12;"), 0, 0);
    }

    private static void asManyPiecesAsStones() {
        sentence("all its PIECES laid one behind the other");
        // 18 PIECES take all 18 STONES of a BAG: one of 2 CELLS whole, the others CUT, one of them ASLANT, too.
        StoneFloors x = laid("l0,2,r12d2l11d2r11;" + COMBS);
        x.cover(1, 0);
        x.cover(2, 1);
        duePieces(x, 0, 1, 1, 1, 1, 1, 1, 1, 1, 1, 1, 1, 1, 2, 1, 1, 1, 1, 1);
        due("way(0, 2, -2)", x.way(0, 2, -2), 18);
        due("way(0, 2, -1)", x.way(0, 2, -1), 18);
        due("way(0, 2, 12)", x.way(0, 2, 12), whole(2, 0));
        due("way(0, 2, 17)", x.way(0, 2, 17), cut(1, 2));
        due("way(0, 2, 18)", x.way(0, 2, 18), NONE);
        dueOrder(x, in(2, 0, 0), 18, 0);
        due("cover(0, 2)", x.cover(0, 2), 18);
        dueBag(x, 2, 0, 0, 0);
        due("takeUp(0)", x.takeUp(0), 1);
        // For 19 PIECES no BAG has STONES enough.
        StoneFloors y = laid("l0,2,r12d2l11d2r11;" + COMBS.replace("l7,0,d11r2u10r2d11;", "l7,0,d11r2u10;"));
        y.cover(1, 0);
        y.cover(2, 1);
        duePieces(y, 0, 1, 1, 1, 1, 1, 2, 2, 1, 1, 1, 1, 1, 1, 2, 1, 1, 1, 1, 2);
        dueNoWay(y, 0, 2);
        due("best(0)", y.best(0), NONE);
        due("cover(0, 2)", y.cover(0, 2), NONE);
        dueOrder(y, in(2, 2, 2), NONE);
    }

    private static void fewestCuts() {
        sentence("THE WAY is that of the fewest CUTS");
        // One CUT one would do, but two whole ones have no CUTS.
        dueWay(laid("l0,0,r4;"), 0, 0, 0, whole(2, 0), whole(2, 0));
        dueWay(laid("z1,2,9;l0,0,r8;"), 0, 0, 0, whole(2, 1), whole(2, 1), whole(2, 1), whole(2, 1));
        // A whole B would be cut ASLANT, whole ones of A are not.
        dueWay(laid("z1,2,3;l0,0,r3d1;"), 0, 0, 0, whole(2, 1), whole(1, 0), whole(1, 0));
        // What is good for the first PIECE alone would cost more in the second.
        dueWay(laid("b0,3,0,1;l0,0,r6d5;"), 0, 0, 0, whole(2, 0), whole(2, 0), whole(2, 0), whole(5, 2));
    }

    private static void fewestStones() {
        sentence("of several that of the fewest STONES");
        dueWay(laid("l0,0,r6;"), 0, 0, 0, whole(3, 1), whole(3, 1));
        dueWay(laid("l0,0,r10;"), 0, 0, 0, whole(5, 2), whole(5, 2));
        dueWay(laid("z1,5,6;l0,0,r10;"), 0, 0, 0, whole(5, 1), whole(5, 1));
        dueWay(laid("b0,2,0,1;l0,0,r3;"), 0, 0, 1, cut(3, 2));
    }

    private static void longerAhead() {
        sentence("of several the first: its STONES one behind the other, the first in which two are unlike counts: the"
                + " longer one ahead");
        dueWay(laid("b0,1,1,0;l0,0,r5;"), 0, 0, 0, whole(3, 1), whole(2, 0));
        dueWay(laid("b0,1,0,1;l0,0,r7;"), 0, 0, 0, whole(5, 2), whole(2, 0));
        dueWay(laid("l0,0,r10d5;"), 0, 0, 0, whole(5, 2), whole(3, 1), whole(2, 0), whole(5, 2));
        // A longer one that is CUT is ahead of a shorter one that is whole.
        dueWay(laid("j1;b0,1,0,1;l0,0,r6;"), 0, 0, 1, cut(3, 2), whole(2, 0));
        dueWay(laid("b0,0,2,0;l0,0,r4;"), 0, 0, 1, whole(3, 1), cut(1, 1));
        // Of the second STONES too, and of those of the PIECE behind.
        dueWay(laid("z2,3,6;l0,0,r11;"), 0, 0, 0, whole(6, 2), whole(3, 1), whole(2, 0));
        dueWay(laid("z2,3,7;l0,0,r1d5;"), 0, 0, 2, cut(1, 0), whole(3, 1), whole(2, 0));
    }

    private static void wholeAhead() {
        sentence("of like length a whole one ahead of a CUT one");
        StoneFloors x = laid("b0,1,1,0;l0,0,r5;l2,0,d1;");
        x.cover(1, 2);
        dueWay(x, 0, 0, 1, whole(2, 0), cut(2, 1));
        StoneFloors y = laid("b1,0,1,1;l0,0,r7;l3,0,d1;");
        y.cover(1, 2);
        dueWay(y, 0, 1, 1, whole(3, 1), cut(3, 2));
    }

    private static void lesserSizeAhead() {
        sentence("of CUT ones that of the lesser SIZE.");
        dueWay(laid("l0,0,r1;"), 0, 0, 1, cut(1, 0));
        dueWay(laid("b0,0,1,1;l0,0,r1;"), 0, 0, 1, cut(1, 1));
        dueWay(laid("b0,0,0,1;l0,0,r1;"), 0, 0, 1, cut(1, 2));
        dueWay(laid("z2,5,7;l0,0,r3;"), 0, 0, 1, cut(3, 1));
        StoneFloors x = laid("b1,1,0,1;b2,0,1,1;l0,0,r3;l1,0,d1;");
        x.cover(1, 0);
        dueWay(x, 0, 1, 2, cut(1, 0), cut(1, 2));
        dueWay(x, 0, 2, 2, cut(1, 1), cut(1, 2));
    }

    private static void outOfTheBag() {
        sentence("COVERED in a COLOUR is a LINE by THE WAY: its STONES go out of the BAG.");
        StoneFloors x = laid("b1,1,2,1;l0,0,r6;l0,9,r1;l5,9,r4;");
        dueWay(x, 0, 1, 0, whole(3, 1), whole(3, 1));
        due("cover(0, 1)", x.cover(0, 1), 0);
        dueBag(x, 1, 1, 0, 1);
        // CUT ones go out as the SIZE that they were, the last one of a SIZE too.
        due("cover(1, 1)", x.cover(1, 1), 1);
        dueBag(x, 1, 0, 0, 1);
        due("cover(2, 1)", x.cover(2, 1), 1);
        dueBag(x, 1, 0, 0, 0);
        dueBag(x, 0, 6, 6, 6);
        dueBag(x, 2, 6, 6, 6);
    }
}

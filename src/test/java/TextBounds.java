/** Sentences on THE GROUND, what LINES, STONES, BAGS, JOINT and a TEXT can be. */
final class TextBounds extends Sentences {
    private static final String FIRST = "z2,3,5;j0;b0,4,4,2;b1,3,2,1;l2,2,r9d6l4;l6,0,d8;l0,5,r12u3;";

    static void run() {
        ground();
        use();
        runsOfALine();
        lengthOfARun();
        firstCell();
        nextRun();
        turns();
        onTheGround();
        noneTwice();
        bends();
        lines();
        sizes();
        bags();
        joints();
        letters();
        items();
        sizesItem();
        jointItem();
        bagItem();
        lineItem();
        faultPlace();
        laidOnly();
        laidAtFirst();
    }

    private static void ground() {
        sentence("THE GROUND has CELLS (x, y), x 0 to 19 to the right, y 0 to 19 downwards.");
        StoneFloors x = laid("l0,0,r2;l19,19,u2;");
        x.cover(0, 0);
        x.cover(1, 1);
        due("whose(0, 0)", x.whose(0, 0), 0);
        due("whose(1, 0)", x.whose(1, 0), 0);
        due("whose(0, 1)", x.whose(0, 1), NONE);
        due("whose(19, 19)", x.whose(19, 19), 1);
        due("whose(19, 18)", x.whose(19, 18), 1);
        due("whose(18, 19)", x.whose(18, 19), NONE);
        due("whose(19, 0)", x.whose(19, 0), NONE);
        due("whose(0, 19)", x.whose(0, 19), NONE);
        // A CELL beyond a side is not the one at the other side of the next row.
        int[][] beyond = {{-1, 0}, {0, -1}, {20, 0}, {0, 20}, {-1, 1}, {20, -1}, {20, 18}, {-1, 20}, {-1, -1}, {20, 20}};
        for (int[] cell : beyond) {
            due("whose(" + cell[0] + ", " + cell[1] + ")", x.whose(cell[0], cell[1]), BAD);
        }
        dueEach("whose(n, 0)", x, BAD, FAR, (f, n) -> f.whose(n, 0));
        dueEach("whose(0, n)", x, BAD, FAR, (f, n) -> f.whose(0, n));
        good("l19,0,d1;", "l0,19,r1;", "l19,19,r1;");
        faulty("l20,0,d1;", "l0,20,r1;", "l20,0,l2;", "l0,20,u2;", "l99,99,l1;");
    }

    private static void use() {
        sentence("An object is used for at most 512 calls after it has been made; what later calls answer is free.");
        StoneFloors x = new StoneFloors();
        for (int n = 1; n <= 256; n++) {
            due("joint(1), call " + (2 * n - 1), x.joint(1), 0);
            due("undo(), call " + 2 * n, x.undo(), 0);
        }
        StoneFloors y = new StoneFloors();
        for (int n = 0; n < 51; n++) {
            due("cover(0, 0)", y.cover(0, 0), 1);
            due("order(0, 1, 2, -1)", y.order(0, 1, 2, -1), 2);
            due("cover(2, 2)", y.cover(2, 2), 2);
            due("takeUp(0)", y.takeUp(0), 6);
            due("fill(0)", y.fill(0), 9);
            due("lay()", y.lay(), NO);
            for (int more = 3; more >= 0; more--) {
                due("undo()", y.undo(), more);
            }
        }
    }

    private static void runsOfALine() {
        sentence("A LINE is told by a CELL and 1 to 5 RUNS");
        faulty("l0,0,;", "l0,0;", "l0,r1;", "lr1;", "l,0,r1;", "l0,,r1;", "l;");
        good("l0,0,r1;", "l0,0,r1d1r1d1;", "l0,0,r1d1r1d1r1;");
        faulty("l0,0,r1d1r1d1r1d1;", "l0,0,r1d1r1d1r1d1r1;");
        due("line(0, 0)", laid("l0,0,r1;").line(0, 0), 1);
        due("line(0, 0)", laid("l0,0,r1d1r1d1r1;").line(0, 0), 5);
    }

    private static void lengthOfARun() {
        sentence("each goes r (right), l (left), u (up) or d (down) over n CELLS (1 to 12)");
        String[] begun = {"l0,5,r", "l19,5,l", "l5,19,u", "l5,0,d"};
        int[] twelfth = {5 * 20 + 11, 5 * 20 + 8, 8 * 20 + 5, 11 * 20 + 5};
        for (int way = 0; way < 4; way++) {
            faulty(begun[way] + "0;", begun[way] + "00;", begun[way] + "13;", begun[way] + "20;", begun[way] + "99;");
            due("cells of " + begun[way] + "1;", laid(begun[way] + "1;").line(0, 1), 1);
            due("cells of " + begun[way] + "12;", laid(begun[way] + "12;").line(0, 1), 12);
            due("cell(0, 11) of " + begun[way] + "12;", laid(begun[way] + "12;").cell(0, 11), twelfth[way]);
        }
        good("l0,0,r1d1;", "l0,0,r1d12;", "l0,0,d12r12;");
        faulty("l0,0,r1d0;", "l0,0,r1d13;", "l0,0,r0d1;", "l0,0,r13d1;");
        faulty("l9,9,R1;", "l9,9,L1;", "l9,9,U1;", "l9,9,D1;", "l9,9,o1;", "l9,9,1;", "l9,9,r1x1;");
    }

    private static void firstCell() {
        sentence("the first RUN's first CELL is the one told");
        for (String run : new String[] {"r1", "l1", "u1", "d1", "r3", "l3", "u3", "d3"}) {
            due("cell(0, 0) of " + run, laid("l7,9," + run + ";").cell(0, 0), 9 * 20 + 7);
        }
    }

    private static void nextRun() {
        sentence("each other RUN begins in the CELL next to the last one of the RUN ahead, in the way in which it goes"
                + " itself (r9d6 from (2, 2): (2, 2) to (10, 2), then (10, 3) to (10, 8))");
        dueCells("l2,2,r9d6;", 2, 2, 3, 2, 4, 2, 5, 2, 6, 2, 7, 2, 8, 2, 9, 2, 10, 2, 10, 3, 10, 4, 10, 5, 10, 6, 10, 7,
                10, 8);
        dueCells("l5,5,r2u2;", 5, 5, 6, 5, 6, 4, 6, 3);
        dueCells("l5,5,r2d2;", 5, 5, 6, 5, 6, 6, 6, 7);
        dueCells("l5,5,l2u2;", 5, 5, 4, 5, 4, 4, 4, 3);
        dueCells("l5,5,l2d2;", 5, 5, 4, 5, 4, 6, 4, 7);
        dueCells("l5,5,u2r2;", 5, 5, 5, 4, 6, 4, 7, 4);
        dueCells("l5,5,u2l2;", 5, 5, 5, 4, 4, 4, 3, 4);
        dueCells("l5,5,d2r2;", 5, 5, 5, 6, 6, 6, 7, 6);
        dueCells("l5,5,d2l2;", 5, 5, 5, 6, 4, 6, 3, 6);
        dueCells("l5,5,r1d1l1d1r1;", 5, 5, 5, 6, 4, 6, 4, 7, 5, 7);
    }

    private static void turns() {
        sentence("r and l come behind u or d alone, and the other way round.");
        for (char ahead : "rlud".toCharArray()) {
            for (char behind : "rlud".toCharArray()) {
                boolean turns = "rl".indexOf(ahead) < 0 != "rl".indexOf(behind) < 0;
                dueFault(turns ? NONE : 0, "l9,9," + ahead + "2" + behind + "2;");
                String side = "rl".indexOf(ahead) < 0 ? "r3" : "d3";
                dueFault(turns ? NONE : 0, "l9,9," + side + ahead + "2" + behind + "2;");
            }
        }
    }

    private static void onTheGround() {
        sentence("All CELLS of a LINE are on THE GROUND");
        good("l8,0,r12;", "l11,0,l12;", "l0,11,u12;", "l0,8,d12;", "l18,5,r2;", "l1,5,l2;", "l5,1,u2;", "l5,18,d2;");
        faulty("l9,0,r12;", "l10,0,l12;", "l0,10,u12;", "l0,9,d12;", "l19,5,r2;", "l0,5,l2;", "l5,0,u2;", "l5,19,d2;");
        good("l18,5,d2r1;", "l1,5,d2l1;", "l5,1,r2u1;", "l5,18,r2d1;");
        faulty("l19,5,d2r1;", "l0,5,d2l1;", "l5,0,r2u1;", "l5,19,r2d1;", "l15,3,r4d2r2;", "l0,0,r12d12l12u12;");
    }

    private static void noneTwice() {
        sentence("none comes twice.");
        good("l5,5,r3d2l2u1;", "l5,5,r2d2l2u2;", "l5,5,d4r2u2l1;", "l0,0,r12d12l11u11r10;");
        // The first CELL again, one amid a RUN, one of the last RUN alone.
        faulty("l5,5,r3d2l2u2;", "l5,5,r5d2l2u3;", "l5,5,d4r2u2l2;", "l0,0,r12d12l11u11r11;", "l5,5,r2d1l1u1;");
        // Another LINE may go over the same CELLS.
        good("l0,0,r5;l0,0,r5;l0,0,r5;", "l0,0,r3;l2,0,l3;");
    }

    private static void bends() {
        sentence("A BEND is behind the last CELL of each RUN but the last one.");
        String line = "l0,0,r3";
        for (int runs = 1; runs <= 5; runs++) {
            StoneFloors x = laid("b0,0,6,0;" + line + ";");
            due("line(0, 2) of " + line, x.line(0, 2), runs - 1);
            due("way(0, 0, -1) of " + line, x.way(0, 0, -1), runs - 1);
            line += runs % 2 == 1 ? "d3" : "r3";
        }
    }

    private static void lines() {
        sentence("3 LINES at most, 0, 1, ..");
        String three = "l0,0,r1;l1,1,r1;l2,2,r1;";
        good(three, three + "j1;");
        dueFault(24, three + "l3,3,r1;");
        dueFault(27, three + "j1;l3,3,r1;");
        due("lay() with four", told(three + "l3,3,r1;").lay(), NO);
        StoneFloors x = laid(three);
        due("count(0)", x.count(0), 3);
        for (int i = 0; i < 3; i++) {
            due("cell(" + i + ", 0)", x.cell(i, 0), 21 * i);
        }
        due("line(3, 0)", x.line(3, 0), BAD);
        StoneFloors one = laid("l0,0,r1;");
        due("count(0)", one.count(0), 1);
        due("line(0, 0)", one.line(0, 0), 1);
        due("line(1, 0)", one.line(1, 0), BAD);
    }

    private static void sizes() {
        sentence("STONES are of three SIZES, A less than B less than C (1 to 9 CELLS long)");
        good("z1,2,3;", "z7,8,9;", "z1,2,9;", "z1,8,9;");
        faulty("z0,1,2;", "z0,0,0;", "z7,8,10;", "z8,9,10;", "z2,2,3;", "z1,3,3;", "z3,3,3;", "z3,2,4;", "z1,4,3;",
                "z9,8,7;", "z1,2;", "z1;", "z1,2,3,4;");
        StoneFloors least = laid("z1,2,3;l0,0,r1;");
        StoneFloors most = laid("z7,8,9;l0,0,r1;");
        for (int size = 1; size <= 3; size++) {
            due("count(" + size + ")", least.count(size), size);
            due("count(" + size + ")", most.count(size), 6 + size);
        }
        dueWay(laid("z1,2,3;l0,0,r1;"), 0, 0, 0, whole(1, 0));
        dueWay(laid("z7,8,9;l0,0,r9;"), 0, 0, 0, whole(9, 2));
    }

    private static void bags() {
        sentence("a BAG of each COLOUR (0, 1, 2) has so many of each SIZE (0 to 6).");
        good("b0,0,0,0;", "b1,6,6,6;", "b2,0,6,0;");
        faulty("b3,1,1,1;", "b10,1,1,1;", "b0,7,0,0;", "b0,0,7,0;", "b0,0,0,7;", "b0,10,0,0;", "b0,0,60,0;", "b-1,1,1,1;");
        StoneFloors x = laid("b0,0,1,2;b1,3,4,5;b2,6,0,6;l0,0,r1;");
        dueBag(x, 0, 0, 1, 2);
        dueBag(x, 1, 3, 4, 5);
        dueBag(x, 2, 6, 0, 6);
    }

    private static void joints() {
        sentence("JOINT is J (0 to 2) CELLS long.");
        good("j0;", "j1;", "j2;");
        faulty("j3;", "j10;", "j20;", "j99;");
        for (int joint = 0; joint <= 2; joint++) {
            StoneFloors x = laid("j" + joint + ";b0,2,0,0;l0,0,r" + (4 + joint) + ";");
            due("count(4)", x.count(4), joint);
            dueWay(x, 0, 0, 0, whole(2, 0), whole(2, 0));
        }
    }

    private static void letters() {
        sentence("THE TEXT is letters (200 at most).");
        StoneFloors x = told("j0;".repeat(64) + "l0,0,r1;");
        due("count(8)", x.count(8), 200);
        due("write(';')", x.write(';'), FULL);
        due("count(8)", x.count(8), 200);
        due("fault()", x.fault(), NONE);
        due("lay()", x.lay(), 1);
        due("wipe()", x.wipe(), 200);
        StoneFloors y = told("j0;".repeat(65) + "l0,0,r1;");
        due("count(8)", y.count(8), 200);
        due("fault() of a line cut off", y.fault(), 195);
        due("lay() of a line cut off", y.lay(), NO);
        StoneFloors z = told("j0;".repeat(63) + "l0,0,r1;j1;");
        due("fault()", z.fault(), NONE);
        due("lay()", z.lay(), 1);
        due("count(4) by the last item", z.count(4), 1);
        // An ITEM that the 200th letter cuts off, wherever it does.
        for (String item : new String[] {"z1,2,3;", "z01,02,03;", "j0;", "j00;", "b0,1,1,1;", "b00,01,01,01;", "l0,0,r1d1;",
                "l00,00,r01d12;"}) {
            for (int has = 1; has < item.length(); has++) {
                dueFault(200 - has, goodLetters(200 - has) + item.substring(0, has));
            }
            dueFault(NONE, goodLetters(200 - item.length()) + item);
        }
    }

    /** So many letters of good ITEMS. */
    private static String goodLetters(int many) {
        int fours = many % 3;
        return "j00;".repeat(fours) + "j0;".repeat((many - 4 * fours) / 3);
    }

    private static void items() {
        sentence("A TEXT is ITEMS one behind the other, a ; behind each; numbers have one or two figures:");
        good("", "j1;", "j1;j1;", "j1;z1,2,3;b0,1,1,1;l0,0,r1;");
        faulty("j1", ";", "j1,", "j1 ;", " j1;", "j1:", "x;", "J1;", "Z1,2,3;", "1;", "j1j1;", "z1,2,3", "b0,1,1,1", "l0,0,r1");
        dueFault(3, "j1;;", "j1; j1;", "j1;;j1;", "j1;j1", "j1; ");
        good("j01;", "z01,02,09;", "b00,00,06,01;", "l00,19,r01;", "l05,5,r12d03;");
        faulty("j;", "j001;", "j000;", "z1,2,;", "z,2,3;", "z1,,3;", "z001,2,3;", "z1,2,003;", "b0,1,1,;", "b000,1,1,1;",
                "b0,1,1,001;", "l000,0,r1;", "l0,000,r1;", "l0,0,r001;", "l0,0,r;", "j-1;", "j+1;", "j 1;", "j1a;");
        due("count(4) of j01", laid("j01;l0,0,r1;").count(4), 1);
        due("line(0, 1) of r10", laid("l0,0,r10;").line(0, 1), 10);
    }

    private static void sizesItem() {
        sentence("zA,B,C      the SIZES (2, 3, 5 without; of several the last one counts)");
        dueSizes(laid("z4,6,8;l0,0,r1;"), 4, 6, 8);
        dueSizes(laid("l0,0,r1;"), 2, 3, 5);
        dueSizes(laid("z1,2,3;z4,6,8;l0,0,r1;z3,4,7;"), 3, 4, 7);
        StoneFloors x = laid("z4,6,8;l0,0,r1;");
        tell(x, "l0,0,r1;");
        x.lay();
        dueSizes(x, 2, 3, 5);
        // One that is not so is a FAULT, though a good one comes behind it.
        dueFault(0, "z3,2,1;z1,2,3;");
        faulty("z1,2,3,;", "z1.2.3;", "z123;", "z1,2 3;");
    }

    private static void dueSizes(StoneFloors x, int... sizes) {
        for (int size = 0; size < 3; size++) {
            due("count(" + (1 + size) + ")", x.count(1 + size), sizes[size]);
        }
    }

    private static void jointItem() {
        sentence("jJ          JOINT (0 without; likewise)");
        due("count(4)", laid("j2;l0,0,r1;").count(4), 2);
        due("count(4)", laid("l0,0,r1;").count(4), 0);
        due("count(4)", laid("j2;l0,0,r1;j1;").count(4), 1);
        due("count(4)", laid("j1;j2;j0;l0,0,r1;").count(4), 0);
        StoneFloors x = laid("j2;l0,0,r1;");
        tell(x, "l0,0,r1;");
        x.lay();
        due("count(4) without, behind one with", x.count(4), 0);
        x.lay();
        due("count(4) without, once more", x.count(4), 0);
        dueFault(0, "j3;j1;");
        faulty("j1,1;", "j0,;");
    }

    private static void bagItem() {
        sentence("bK,P,Q,R    the BAG of COLOUR K has P STONES of A, Q of B, R of C (6 of each without; of several of one"
                + " COLOUR the last one counts)");
        StoneFloors x = laid("b1,1,2,3;l0,0,r1;");
        dueBag(x, 0, 6, 6, 6);
        dueBag(x, 1, 1, 2, 3);
        dueBag(x, 2, 6, 6, 6);
        tell(x, "l0,0,r1;");
        x.lay();
        dueBag(x, 1, 6, 6, 6);
        StoneFloors y = laid("b2,1,2,3;b0,4,4,4;b2,0,0,5;l0,0,r1;b0,3,2,1;");
        dueBag(y, 0, 3, 2, 1);
        dueBag(y, 1, 6, 6, 6);
        dueBag(y, 2, 0, 0, 5);
        faulty("b0,1,1;", "b0;", "b;", "b0,1,1,1,1;", "b0 1,1,1;", "b0,1,1 1;");
    }

    private static void lineItem() {
        sentence("lX,Y,M      the next LINE: from CELL (X, Y) on, M its RUNS one behind the other, each a letter and a"
                + " number");
        StoneFloors x = laid("l3,4,r1;l19,0,d2;l0,19,u2r2;");
        due("cell(0, 0)", x.cell(0, 0), 4 * 20 + 3);
        due("cell(1, 0)", x.cell(1, 0), 19);
        due("cell(2, 0)", x.cell(2, 0), 19 * 20);
        due("line(2, 0)", x.line(2, 0), 2);
        faulty("l3,4r1;", "l3,4,r1,d1;", "l3,4,r1 d1;", "l3,4,1r;", "l3,4,r1d;", "l3,4,rd1;", "l3,4,r1d1,;", "l3,4,,r1;",
                "l3;4,r1;", "l3,4,r1.");
    }

    private static void faultPlace() {
        sentence("FAULT: the place of the first letter of the first ITEM that is not so.");
        dueFault(0, "x", "z1,2,3", "l0,0,r1d1r1d1r1d1;j1;", "z1,2,9,;j1;");
        dueFault(3, "j1;z9,9,9;j9;", "j1;l0,0,r1d1r1d1r1d1", "j1;j", "j1;b0,1,1,7;");
        dueFault(8, "l0,0,r1;l0,0,r13;", "l0,0,r1;x;l0,0,r13;", "l0,0,r1;;");
        dueFault(16, "z1,2,3;b0,1,1,1;j");
        dueFault(198, "j0;".repeat(66) + "j0");
        dueFault(199, "l0,0,r1;l0,0,r1;" + "j0;".repeat(61) + "x");
    }

    private static void laidOnly() {
        sentence("LAID is a TEXT without FAULT with a LINE at least (NO else;");
        String[] not = {"", "z1,2,3;j1;b0,1,1,1;", "l0,0,r1", "l0,0,r1;x", "x;l0,0,r1;", "l0,0,r1;l0,0,r13;", "l0,0,r1;j3;"};
        for (String text : not) {
            dueUnchanged(() -> told(text), "lay() of " + text, StoneFloors::lay, NO);
            StoneFloors x = told(text);
            x.lay();
            same("the floor behind lay() of " + text, floor(x) + cells(x), floor(new StoneFloors()) + cells(new StoneFloors()));
        }
        due("lay()", told("l0,0,r1;").lay(), 1);
        due("lay()", told("l0,0,r1;z1,2,3;j1;").lay(), 1);
    }

    private static void laidAtFirst() {
        sentence("at first z2,3,5;j0;b0,4,4,2;b1,3,2,1;l2,2,r9d6l4;l6,0,d8;l0,5,r12u3;).");
        StoneFloors x = new StoneFloors();
        dueSizes(x, 2, 3, 5);
        due("count(4)", x.count(4), 0);
        dueBag(x, 0, 4, 4, 2);
        dueBag(x, 1, 3, 2, 1);
        dueBag(x, 2, 6, 6, 6);
        due("count(0)", x.count(0), 3);
        same("the floor", floor(x) + cells(x), floor(laid(FIRST)) + cells(laid(FIRST)));
        due("cell(0, 18)", x.cell(0, 18), 8 * 20 + 6);
        due("cell(1, 7)", x.cell(1, 7), 7 * 20 + 6);
        due("cell(2, 14)", x.cell(2, 14), 2 * 20 + 11);
    }
}

/** Sentences under "Promise 1" to "Promise 20", and the constants. */
final class CallBounds extends Sentences {
    static void run() {
        constants();
        newObject();
        write();
        wipe();
        fault();
        lay();
        joint();
        lineAsTold();
        lineAsCovered();
        cell();
        whose();
        piece();
        way();
        wayStone();
        best();
        cover();
        takeUp();
        order();
        orderBad();
        bag();
        fill();
        undo();
        drawn();
        drawnSigns();
        count();
        countOfFloor();
        countThrownAway();
        countShared();
    }

    private static void constants() {
        sentence("public static final int BAD = -1, NO = -2, FULL = -3, NONE = -4;");
        due("BAD", StoneFloors.BAD, -1);
        due("NO", StoneFloors.NO, -2);
        due("FULL", StoneFloors.FULL, -3);
        due("NONE", StoneFloors.NONE, -4);
    }

    private static void newObject() {
        sentence("As told; THE TEXT is empty.");
        StoneFloors x = new StoneFloors();
        int[] counts = {3, 2, 3, 5, 0, 0, 0, 0, 0, 0, 3};
        for (int what = 0; what < counts.length; what++) {
            due("count(" + what + ")", x.count(what), counts[what]);
        }
        due("fault()", x.fault(), NONE);
        due("lay()", x.lay(), NO);
        due("undo()", x.undo(), NO);
        due("wipe()", x.wipe(), 0);
        due("write('j')", x.write('j'), 1);
        // Another object is another floor.
        x.cover(0, 0);
        due("count(9) of another", new StoneFloors().count(9), 0);
    }

    private static void write() {
        sentence("A letter (32 to 126, as in ASCII) comes behind THE TEXT: how long it is. BAD; FULL: it has 200.");
        StoneFloors x = new StoneFloors();
        dueEach("write(n)", x, BAD, new int[] {31, 127, -1, 0, 9, 10, 13, 128, 255, 256 + 'z', 65536 + 'z', 'z' - 256},
                StoneFloors::write);
        dueEach("write(n)", x, BAD, FAR, StoneFloors::write);
        due("count(8)", x.count(8), 0);
        due("write(32)", x.write(32), 1);
        due("write(126)", x.write(126), 2);
        for (int n = 3; n <= 200; n++) {
            due("write(" + (30 + n % 60 + 2) + ")", x.write(30 + n % 60 + 2), n);
        }
        due("write(32), the 201st", x.write(32), FULL);
        due("write(126), the 201st", x.write(126), FULL);
        due("count(8)", x.count(8), 200);
        // Each letter is the one that was written, and comes behind the others.
        StoneFloors y = new StoneFloors();
        for (char letter : "j2;l3,4,d5;".toCharArray()) {
            y.write(letter);
        }
        due("lay()", y.lay(), 1);
        due("count(4)", y.count(4), 2);
        due("cell(0, 4)", y.cell(0, 4), 163);
    }

    private static void wipe() {
        sentence("THE TEXT is empty: how long it was.");
        StoneFloors x = new StoneFloors();
        due("wipe() of none", x.wipe(), 0);
        x.write('x');
        due("wipe() of one", x.wipe(), 1);
        due("wipe() once more", x.wipe(), 0);
        StoneFloors y = told("x".repeat(200));
        due("wipe() of a full one", y.wipe(), 200);
        due("count(8)", y.count(8), 0);
        due("fault()", y.fault(), NONE);
        due("write('x')", y.write('x'), 1);
        // Nothing of the old letters is left behind the new ones.
        StoneFloors old = told("l0,0,r1;");
        tell(old, "l0,0,r1");
        due("fault()", old.fault(), 0);
        StoneFloors z = told("l0,0,r1;l0,2,r1;");
        tell(z, "l0,0,r1;");
        due("lay()", z.lay(), 1);
    }

    private static void fault() {
        sentence("FAULT. NONE.");
        due("fault() of no letters", new StoneFloors().fault(), NONE);
        dueFault(NONE, "j1;", "l0,0,r1;");
        dueFault(0, "x");
        // fault() tells of THE TEXT as it stands, and changes nothing that is LAID.
        StoneFloors x = told("j2;l0,0,r13;");
        due("fault()", x.fault(), 3);
        due("fault() once more", x.fault(), 3);
        due("count(4)", x.count(4), 0);
        due("count(0)", x.count(0), 3);
        tell(x, "j2;l0,0,r12;");
        due("fault()", x.fault(), NONE);
        due("count(4)", x.count(4), 0);
        due("count(0)", x.count(0), 3);
        due("line(0, 1)", x.line(0, 1), 19);
        // What a TEXT with a FAULT told is not told to the next one.
        tell(x, "z1,2,3;j2;b0,1,1,1;l0,0,r1;x");
        due("fault()", x.fault(), 27);
        tell(x, "l0,0,r2;");
        due("lay()", x.lay(), 1);
        same("the floor", floor(x) + cells(x), floor(laid("l0,0,r2;")) + cells(laid("l0,0,r2;")));
    }

    private static void lay() {
        sentence("LAID: how many LINES; no CUTS so far, nothing thrown away. NO.");
        StoneFloors x = told("l0,0,r1;l0,0,r1;l0,0,r1;");
        x.cover(0, 0);
        x.cover(2, 2);
        x.takeUp(0);
        due("count(5)", x.count(5), 3);
        due("count(6)", x.count(6), 4);
        due("lay()", x.lay(), 3);
        due("count(5)", x.count(5), 0);
        due("count(6)", x.count(6), 0);
        due("lay()", told("l0,0,r1;").lay(), 1);
        due("lay()", told("l0,0,r1;l0,0,r1;").lay(), 2);
        StoneFloors y = told("l0,0,r1");
        y.cover(0, 0);
        due("lay()", y.lay(), NO);
        due("count(5)", y.count(5), 1);
        // LAID once more, all is as at first.
        StoneFloors z = laid("b0,1,1,1;j1;l0,0,r1;");
        z.cover(0, 0);
        z.joint(2);
        z.fill(0);
        due("lay()", z.lay(), 1);
        same("the floor", floor(z) + cells(z), floor(laid("b0,1,1,1;j1;l0,0,r1;")) + cells(laid("b0,1,1,1;j1;l0,0,r1;")));
    }

    private static void joint() {
        sentence("JOINT is told anew: what it was. BAD; NO: it is so.");
        StoneFloors x = new StoneFloors();
        dueEach("joint(n)", x, BAD, new int[] {-1, 3, 4}, StoneFloors::joint);
        dueEach("joint(n)", x, BAD, FAR, StoneFloors::joint);
        for (int was = 0; was <= 2; was++) {
            due("joint(" + was + ") once more", x.joint(was), NO);
            due("joint(" + (was + 1) % 3 + ")", x.joint((was + 1) % 3), was);
            due("count(4)", x.count(4), (was + 1) % 3);
        }
        due("joint(2)", x.joint(2), 0);
        due("count(7)", x.count(7), 4);
        // LINES that are COVERED stay as they are.
        StoneFloors y = new StoneFloors();
        y.cover(1, 0);
        y.joint(2);
        due("line(1, 5)", y.line(1, 5), 2);
        due("line(1, 4)", y.line(1, 4), 8);
    }

    private static void lineAsTold() {
        sentence("Of a LINE: RUNS (what = 0), CELLS (1), BENDS (2)");
        StoneFloors x = laid("l0,0,r1;l0,2,r12d12l11u11r10;l0,19,r3u2;");
        int[][] due = {{1, 1, 0}, {5, 56, 4}, {2, 5, 1}};
        for (int i = 0; i < 3; i++) {
            for (int what = 0; what < 3; what++) {
                due("line(" + i + ", " + what + ")", x.line(i, what), due[i][what]);
            }
        }
        // As many CELLS as there can be.
        StoneFloors longest = laid("l1,1,r12d11l12u12r12;");
        due("line(0, 1)", longest.line(0, 1), 59);
        due("cell(0, 58)", longest.cell(0, 58), 12);
        due("cell(0, 59)", longest.cell(0, 59), NONE);
    }

    private static void lineAsCovered() {
        sentence("the COLOUR in which it is COVERED (3; NONE: it is not), CELLS that are its (4), its STONES as it was"
                + " COVERED (5; 0: it is not), CUTS as it was COVERED (6; 0). BAD.");
        StoneFloors x = laid("b1,0,6,0;l0,0,r4d2;l3,0,d2;");
        dueLine(x, 0, NONE, 0, 0, 0);
        x.cover(0, 1);
        dueLine(x, 0, 1, 6, 3, 3);
        dueLine(x, 1, NONE, 0, 0, 0);
        x.cover(1, 2);
        dueLine(x, 1, 2, 0, 0, 0);
        // As it was COVERED, though the BAG, JOINT and other LINES are others now.
        x.fill(1);
        x.joint(2);
        x.takeUp(1);
        dueLine(x, 0, 1, 6, 3, 3);
        x.takeUp(0);
        dueLine(x, 0, NONE, 0, 0, 0);
        dueEach("line(0, n)", x, BAD, new int[] {-1, 7, 8}, (f, n) -> f.line(0, n));
        dueEach("line(0, n)", x, BAD, FAR, (f, n) -> f.line(0, n));
        dueEach("line(n, 3)", x, BAD, new int[] {-1, 2, 3}, (f, n) -> f.line(n, 3));
    }

    private static void dueLine(StoneFloors x, int i, int... due) {
        for (int what = 3; what <= 6; what++) {
            due("line(" + i + ", " + what + ")", x.line(i, what), due[what - 3]);
        }
    }

    private static void cell() {
        sentence("The k-th CELL of a LINE (k 0 or more): 20 y and x together. BAD (k below 0); NONE: it has not so many.");
        StoneFloors x = laid("l0,0,r1;l19,19,u2l2;");
        due("cell(0, 0)", x.cell(0, 0), 0);
        due("cell(0, 1)", x.cell(0, 1), NONE);
        due("cell(1, 0)", x.cell(1, 0), 399);
        due("cell(1, 1)", x.cell(1, 1), 379);
        due("cell(1, 2)", x.cell(1, 2), 378);
        due("cell(1, 3)", x.cell(1, 3), 377);
        due("cell(1, 4)", x.cell(1, 4), NONE);
        dueEach("cell(1, n)", x, NONE, new int[] {5, 59, 60, 61, 400, Integer.MAX_VALUE}, (f, n) -> f.cell(1, n));
        dueEach("cell(1, n)", x, BAD, new int[] {-1, -2, Integer.MIN_VALUE}, (f, n) -> f.cell(1, n));
        due("cell(2, 0)", x.cell(2, 0), BAD);
        due("cell(-1, 0)", x.cell(-1, 0), BAD);
        // Of a shorter LINE, behind a longer one, no CELL is left.
        StoneFloors y = laid("l0,0,r12;");
        tell(y, "l0,0,r3;");
        y.lay();
        due("cell(0, 3)", y.cell(0, 3), NONE);
    }

    private static void whose() {
        sentence("Whose a CELL (x, y) is: the LINE. BAD; NONE: nobody's.");
        StoneFloors x = laid("l0,0,r20;".replace("20", "12") + "l0,0,d12;l19,19,l3;");
        due("whose(0, 0), a LINE's that is not COVERED", x.whose(0, 0), NONE);
        x.cover(2, 0);
        due("whose(19, 19)", x.whose(19, 19), 2);
        due("whose(17, 19)", x.whose(17, 19), 2);
        due("whose(16, 19)", x.whose(16, 19), NONE);
        x.cover(1, 1);
        x.cover(0, 2);
        due("whose(0, 0)", x.whose(0, 0), 1);
        due("whose(1, 0)", x.whose(1, 0), 0);
        due("whose(0, 1)", x.whose(0, 1), 1);
        due("whose(11, 0)", x.whose(11, 0), 0);
        due("whose(12, 0)", x.whose(12, 0), NONE);
        due("whose(20, 19)", x.whose(20, 19), BAD);
        due("whose(19, 20)", x.whose(19, 20), BAD);
        due("whose(-1, 0)", x.whose(-1, 0), BAD);
        due("whose(0, -1)", x.whose(0, -1), BAD);
    }

    private static void piece() {
        sentence("PIECES of a LINE: how many (k = -1), how many CELLS the k-th has, the first first. BAD (k below -1); NO: it"
                + " is COVERED; NONE: not so many.");
        StoneFloors x = laid("l0,0,r5d2r1;l0,0,r5;");
        duePieces(x, 0, 5, 2, 1);
        dueEach("piece(0, n)", x, NONE, new int[] {3, 4, 60, Integer.MAX_VALUE}, (f, n) -> f.piece(0, n));
        dueEach("piece(0, n)", x, BAD, new int[] {-2, -3, Integer.MIN_VALUE}, (f, n) -> f.piece(0, n));
        due("piece(2, -1)", x.piece(2, -1), BAD);
        x.cover(0, 0);
        dueEach("piece(0, n) of a COVERED one", x, NO, new int[] {-1, 0, 2, 3, Integer.MAX_VALUE}, (f, n) -> f.piece(0, n));
        due("piece(0, -2) of a COVERED one", x.piece(0, -2), BAD);
        due("piece(1, -1), none left", x.piece(1, -1), 0);
        due("piece(1, 0), none left", x.piece(1, 0), NONE);
    }

    private static void way() {
        sentence("THE WAY of a LINE in a COLOUR: CUTS (k = -1), STONES (-2), the k-th STONE (k 0 or more)");
        StoneFloors x = new StoneFloors();
        due("way(0, 0, -1)", x.way(0, 0, -1), 1);
        due("way(0, 0, -2)", x.way(0, 0, -2), 7);
        int[] stones = {104, 40, 40, 62, 62, 40, 40};
        for (int k = 0; k < stones.length; k++) {
            due("way(0, 0, " + k + ")", x.way(0, 0, k), stones[k]);
        }
        sentence("BAD (k below -2); NO: it is COVERED; NONE: there is no WAY, or not so many STONES.");
        dueEach("way(0, 0, n)", x, NONE, new int[] {7, 8, 17, 18, 19, Integer.MAX_VALUE}, (f, n) -> f.way(0, 0, n));
        dueEach("way(0, 0, n)", x, BAD, new int[] {-3, -4, Integer.MIN_VALUE}, (f, n) -> f.way(0, 0, n));
        dueEach("way(0, n, 0)", x, BAD, new int[] {-1, 3, 4}, (f, n) -> f.way(0, n, 0));
        dueEach("way(0, n, 0)", x, BAD, FAR, (f, n) -> f.way(0, n, 0));
        dueEach("way(n, 0, 0)", x, BAD, new int[] {-1, 3, 4}, (f, n) -> f.way(n, 0, 0));
        dueEach("way(0, 1, n), no WAY", x, NONE, new int[] {-2, -1, 0, 7, Integer.MAX_VALUE}, (f, n) -> f.way(0, 1, n));
        x.cover(0, 0);
        dueEach("way(0, 0, n), COVERED", x, NO, new int[] {-2, -1, 0, 7, Integer.MAX_VALUE}, (f, n) -> f.way(0, 0, n));
        due("way(0, 1, -1), COVERED in another", x.way(0, 1, -1), NO);
    }

    private static void wayStone() {
        sentence("20 times its length, twice the number (0, 1, 2) of the SIZE that it was or is, and 1 if it is CUT,"
                + " together.");
        StoneFloors x = laid("z1,8,9;b0,1,0,0;b1,0,1,0;b2,0,0,1;l0,0,r1;l0,2,r8;l0,4,r9;");
        due("whole A", x.way(0, 0, 0), 20);
        due("B cut to 1", x.way(0, 1, 0), 20 + 2 + 1);
        due("C cut to 1", x.way(0, 2, 0), 20 + 4 + 1);
        due("whole B", x.way(1, 1, 0), 160 + 2);
        due("C cut to 8", x.way(1, 2, 0), 160 + 4 + 1);
        due("whole C", x.way(2, 2, 0), 180 + 4);
        due("A cut to 1", laid("z2,8,9;l0,0,r1;").way(0, 0, 0), 20 + 1);
        // One that is cut ASLANT is not CUT by that.
        due("B aslant", laid("b0,0,6,0;l0,0,r3d3;").way(0, 0, 0), 60 + 2);
    }

    private static void best() {
        sentence("The COLOUR in which THE WAY of a LINE has the fewest CUTS, of several the lowest. BAD; NO: it is COVERED;"
                + " NONE: there is no WAY in any.");
        // For LINE 0 the CUTS are 1, 0, 0; for 1 1, 1, 1; for 2 no WAY but in 2; for a long one none.
        StoneFloors x = laid("b0,0,0,1;b1,0,1,0;b2,0,1,1;l0,0,r3;l0,2,r2;l0,4,r8;");
        due("best(0)", x.best(0), 1);
        due("best(1)", x.best(1), 0);
        due("best(2)", x.best(2), 2);
        due("best(0), no way", laid("b0,0,0,1;b1,0,1,0;b2,0,1,1;l0,0,r9;").best(0), NONE);
        due("best(0), no way in 0", laid("b0,0,0,0;l0,0,r1;").best(0), 1);
        due("best(0), fewest in the first", laid("b0,1,0,0;b1,0,1,0;b2,0,0,1;l0,0,r2;").best(0), 0);
        due("best(0), fewest in the last", laid("b0,0,0,1;b1,0,1,0;b2,1,0,0;l0,0,r2;").best(0), 2);
        // Fewer STONES do not count.
        due("best(0)", laid("b0,3,0,0;b1,0,2,0;l0,0,r6;").best(0), 0);
        dueEach("best(n)", x, BAD, new int[] {-1, 3, 4}, StoneFloors::best);
        dueEach("best(n)", x, BAD, FAR, StoneFloors::best);
        x.cover(0, 2);
        due("best(0)", x.best(0), NO);
        due("best(2)", x.best(2), NONE);
        StoneFloors none = laid("b0,0,0,0;l0,0,r1;l0,0,r1;");
        none.cover(0, 1);
        due("best(1), no pieces", none.best(1), 0);
    }

    private static void cover() {
        sentence("COVERED: CUTS of THE WAY. BAD; NO: it is already; NONE: there is no WAY.");
        StoneFloors x = new StoneFloors();
        dueEach("cover(0, n)", x, BAD, new int[] {-1, 3, 4}, (f, n) -> f.cover(0, n));
        dueEach("cover(0, n)", x, BAD, FAR, (f, n) -> f.cover(0, n));
        dueEach("cover(n, 0)", x, BAD, new int[] {-1, 3, 4}, (f, n) -> f.cover(n, 0));
        due("cover(0, 1)", x.cover(0, 1), NONE);
        due("count(9)", x.count(9), 0);
        due("cover(0, 0)", x.cover(0, 0), 1);
        due("cover(0, 0)", x.cover(0, 0), NO);
        due("cover(0, 2)", x.cover(0, 2), NO);
        due("line(0, 3)", x.line(0, 3), 0);
        due("count(9)", x.count(9), 1);
        x.takeUp(0);
        due("cover(0, 2)", x.cover(0, 2), 1);
        // The last STONE of a BAG, then none.
        StoneFloors y = laid("b0,0,0,1;l0,0,r5;l0,2,r5;");
        due("cover(0, 0)", y.cover(0, 0), 0);
        due("cover(1, 0)", y.cover(1, 0), NONE);
    }

    private static void takeUp() {
        sentence("TAKEN UP: how many STONES came back. BAD; NO: it is not COVERED.");
        StoneFloors x = laid("l0,0,r10d3;l0,9,r1;");
        due("takeUp(0)", x.takeUp(0), NO);
        due("cover(0, 1)", x.cover(0, 1), 0);
        due("takeUp(1)", x.takeUp(1), NO);
        due("takeUp(0)", x.takeUp(0), 4);
        due("takeUp(0)", x.takeUp(0), NO);
        due("cover(1, 1)", x.cover(1, 1), 1);
        due("takeUp(1), none came back", x.takeUp(1), 0);
        dueEach("takeUp(n)", x, BAD, new int[] {-1, 2, 3}, StoneFloors::takeUp);
        dueEach("takeUp(n)", x, BAD, FAR, StoneFloors::takeUp);
        // The most that can come back.
        StoneFloors y = laid("z1,2,3;l1,0,r12d12l12;");
        y.cover(0, 0);
        due("takeUp(0)", y.takeUp(0), 18);
        dueBag(y, 0, 6, 6, 6);
    }

    private static void order() {
        sentence("ORDER in COLOURS (0, 1, 2 each): CUTS (k = -1), the LINE that comes k-th (k 0 to 2).");
        StoneFloors x = new StoneFloors();
        dueOrder(x, in(0, 1, 2), 2, 2, 0, 1);
        sentence("NONE: there is no such order, or not so many LINES that are not COVERED.");
        dueOrder(x, in(1, 1, 1), NONE);
        x.cover(2, 2);
        dueOrder(x, in(0, 1, 2), 2, 0, 1);
        x.cover(0, 0);
        dueOrder(x, in(0, 1, 2), 0, 1);
        x.cover(1, 1);
        dueOrder(x, in(0, 1, 2), 0);
        dueOrder(laid("l0,0,r5;"), in(0, 0, 0), 0, 0);
    }

    private static void orderBad() {
        sentence("(0, 1, 2 each): CUTS (k = -1), the LINE that comes k-th (k 0 to 2). BAD;");
        StoneFloors x = new StoneFloors();
        int[] colours = {-1, 3, 4};
        for (int[] numbers : new int[][] {colours, FAR}) {
            dueEach("order(n, 1, 2, -1)", x, BAD, numbers, (f, n) -> f.order(n, 1, 2, -1));
            dueEach("order(0, n, 2, -1)", x, BAD, numbers, (f, n) -> f.order(0, n, 2, -1));
            dueEach("order(0, 1, n, -1)", x, BAD, numbers, (f, n) -> f.order(0, 1, n, -1));
            dueEach("order(0, 1, 2, n)", x, BAD, FAR, (f, n) -> f.order(0, 1, 2, n));
        }
        due("order(0, 1, 2, -2)", x.order(0, 1, 2, -2), BAD);
        due("order(0, 1, 2, 3)", x.order(0, 1, 2, 3), BAD);
        // COLOURS are 0, 1, 2 each, that of a LINE that there is not, too.
        due("order(0, 3, 0, -1)", laid("l0,0,r5;").order(0, 3, 0, -1), BAD);
    }

    private static void bag() {
        sentence("STONES of a SIZE (0, 1, 2) that the BAG of a COLOUR has. BAD.");
        StoneFloors x = laid("b0,0,1,2;b1,3,4,5;b2,6,5,4;l0,0,r1;");
        dueBag(x, 0, 0, 1, 2);
        dueBag(x, 1, 3, 4, 5);
        dueBag(x, 2, 6, 5, 4);
        // A number too large is not that of the next BAG.
        dueEach("bag(0, n)", x, BAD, new int[] {-1, 3, 4, 8}, (f, n) -> f.bag(0, n));
        dueEach("bag(1, n)", x, BAD, new int[] {-1, -3, 3}, (f, n) -> f.bag(1, n));
        dueEach("bag(n, 0)", x, BAD, new int[] {-1, 3, 4}, (f, n) -> f.bag(n, 0));
        dueEach("bag(0, n)", x, BAD, FAR, (f, n) -> f.bag(0, n));
        dueEach("bag(n, 0)", x, BAD, FAR, (f, n) -> f.bag(n, 0));
    }

    private static void fill() {
        sentence("FILLED: how many STONES came into the BAG. BAD; NO: it is full.");
        for (int size = 0; size < 3; size++) {
            int[] has = {6, 6, 6};
            has[size] = 5;
            StoneFloors x = laid("b1," + has[0] + "," + has[1] + "," + has[2] + ";l0,0,r1;");
            due("fill(1), one missing", x.fill(1), 1);
            due("fill(1), full", x.fill(1), NO);
            due("count(7)", x.count(7), 1);
        }
        StoneFloors x = laid("b2,0,0,0;l0,0,r1;");
        due("fill(0), full at first", x.fill(0), NO);
        due("fill(2), all missing", x.fill(2), 18);
        x.cover(0, 0);
        due("fill(0)", x.fill(0), 1);
        dueEach("fill(n)", x, BAD, new int[] {-1, 3, 4}, StoneFloors::fill);
        dueEach("fill(n)", x, BAD, FAR, StoneFloors::fill);
    }

    private static void undo() {
        sentence("UNDONE: how many more can be. NO.");
        StoneFloors x = new StoneFloors();
        due("undo() of nothing", x.undo(), NO);
        x.joint(1);
        due("undo() of one", x.undo(), 0);
        due("undo() once more", x.undo(), NO);
        for (int n = 1; n <= 7; n++) {
            x.joint(n % 3);
        }
        for (int more = 5; more >= 0; more--) {
            due("undo()", x.undo(), more);
            due("count(7)", x.count(7), more);
        }
        due("undo() of the seventh", x.undo(), NO);
    }

    private static void drawn() {
        sentence("THE GROUND drawn: the k-th letter (k 0 to 419; 20 rows from above, a / behind each;");
        StoneFloors x = laid("l0,0,r1;l19,0,d1;l19,19,u2;");
        for (int k = 0; k < 420; k++) {
            boolean line = k == 0 || k == 19 || k == 18 * 21 + 19 || k == 19 * 21 + 19;
            due("drawn(" + k + ")", x.drawn(k), k % 21 == 20 ? '/' : line ? '+' : '.');
        }
        sentence("else .). BAD.");
        due("drawn(1)", x.drawn(1), '.');
        dueEach("drawn(n)", x, BAD, new int[] {-1, 420, 421, 440}, StoneFloors::drawn);
        dueEach("drawn(n)", x, BAD, FAR, StoneFloors::drawn);
    }

    private static void drawnSigns() {
        sentence("a CELL that is a LINE's is its COLOUR: a, b, c; one of a LINE that is not COVERED (and nobody's) +, else .)");
        StoneFloors x = laid("l0,0,r3;l1,0,d3;l2,0,d2;");
        dueDrawn(x, "+++.", ".++.", ".+..");
        x.cover(1, 2);
        dueDrawn(x, "+c+.", ".c+.", ".c..");
        x.cover(0, 1);
        dueDrawn(x, "bcb.", ".c+.", ".c..");
        x.cover(2, 0);
        dueDrawn(x, "bcb.", ".ca.", ".c..");
        // A CELL that was another one's is nobody's now: that one is not COVERED.
        x.takeUp(1);
        dueDrawn(x, "b+b.", ".+a.", ".+..");
        x.takeUp(0);
        dueDrawn(x, "+++.", ".+a.", ".+..");
        x.undo();
        dueDrawn(x, "b+b.", ".+a.", ".+..");
        tell(x, "l3,2,r1;");
        x.lay();
        dueDrawn(x, "....", "....", "...+");
    }

    private static void dueDrawn(StoneFloors x, String... rows) {
        StringBuilder got = new StringBuilder();
        for (int y = 0; y < rows.length; y++) {
            for (int k = 0; k < rows[y].length(); k++) {
                got.append((char) x.drawn(21 * y + k));
            }
            got.append((char) x.drawn(21 * y + 20));
        }
        same("drawn", got.toString(), String.join("/", rows) + "/");
    }

    private static void count() {
        sentence("How many: 0 LINES, 1 SIZE A, 2 B, 3 C, 4 JOINT, 5 CUTS so far");
        StoneFloors x = laid("z3,4,7;j1;b0,0,6,0;l0,0,r3d4;l0,9,r3;");
        int[] counts = {2, 3, 4, 7, 1, 0};
        for (int what = 0; what < counts.length; what++) {
            due("count(" + what + ")", x.count(what), counts[what]);
        }
        due("cover(0, 0)", x.cover(0, 0), 2);
        due("count(5)", x.count(5), 2);
        due("cover(1, 0)", x.cover(1, 0), 1);
        due("count(5)", x.count(5), 3);
        // So far: TAKEN UP, they were made nevertheless; UNDONE, they were not.
        x.takeUp(0);
        due("count(5) behind takeUp", x.count(5), 3);
        x.undo();
        x.undo();
        due("count(5) behind undo", x.count(5), 2);
        sentence("CELLS of two LINES or three. BAD.");
        dueEach("count(n)", x, BAD, new int[] {-1, 11, 12}, StoneFloors::count);
        dueEach("count(n)", x, BAD, FAR, StoneFloors::count);
    }

    private static void countOfFloor() {
        sentence("7 changes that can be UNDONE, 8 letters of THE TEXT, 9 LINES that are COVERED");
        StoneFloors x = new StoneFloors();
        for (int n = 0; n < 8; n++) {
            due("count(7)", x.count(7), Math.min(n, 6));
            x.joint((n + 1) % 3);
        }
        for (int n = 0; n <= 200; n++) {
            due("count(8)", x.count(8), n);
            x.write('x');
        }
        due("count(8)", x.count(8), 200);
        for (int i = 0; i < 3; i++) {
            due("count(9)", x.count(9), i);
            x.cover(i, 2);
            x.fill(2);
        }
        due("count(9)", x.count(9), 3);
        x.takeUp(1);
        due("count(9)", x.count(9), 2);
    }

    private static void countThrownAway() {
        sentence("6 CELLS of length thrown away so far (of CUT ones what was cut off, of those TAKEN UP as they lay)");
        StoneFloors x = laid("b0,0,1,1;l0,0,r1;l0,2,r2d5;");
        x.cover(0, 0);
        due("count(6), B cut to 1", x.count(6), 2);
        x.takeUp(0);
        due("count(6), it lay as 1", x.count(6), 3);
        x.cover(0, 0);
        due("count(6), C cut to 1", x.count(6), 7);
        x.undo();
        due("count(6) behind undo", x.count(6), 3);
        x.fill(0);
        x.cover(1, 0);
        due("count(6), all whole", x.count(6), 3);
        x.fill(0);
        due("takeUp(1)", x.takeUp(1), 0);
        due("count(6), as they lay: 2 and 5", x.count(6), 10);
    }

    private static void countShared() {
        sentence("10 CELLS of two LINES or three.");
        due("none", laid("l0,0,r5;l0,1,r5;l0,2,r5;").count(10), 0);
        due("one line", laid("l0,0,r5;").count(10), 0);
        due("two lines", laid("l0,0,r5;l0,0,d5;").count(10), 1);
        due("three over one cell", laid("l0,0,r5;l0,0,d5;l0,0,r1;").count(10), 1);
        due("all", laid("l0,0,r5;l4,0,l5;l0,0,r5;").count(10), 5);
        due("two pairs", laid("l0,0,r5;l0,0,d5;l4,0,d5;").count(10), 2);
        // COVERED or not does not matter.
        StoneFloors x = new StoneFloors();
        due("count(10)", x.count(10), 3);
        x.cover(0, 0);
        x.cover(1, 1);
        due("count(10)", x.count(10), 3);
    }
}

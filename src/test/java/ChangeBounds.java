/** Sentences on what is TAKEN UP, FILLED, UNDONE, on ORDER, and on what all calls answer. */
final class ChangeBounds extends Sentences {
    static void run() {
        takenUp();
        backIntoTheBag();
        sixAtMost();
        othersThrownAway();
        filled();
        changes();
        latestUndone();
        lastSixUndone();
        nothingBecomesAnother();
        noneBehindLaid();
        asAhead();
        orderOfThoseThatCan();
        orderOfOthersColours();
        orderOfFewestCuts();
        orderFirst();
        bad();
        no();
        none();
        full();
        severalRefusals();
        nothingChanges();
        asItStandsThen();
        textStays();
    }

    private static void takenUp() {
        sentence("TAKEN UP is a COVERED LINE: it is not COVERED any more, its CELLS are nobody's;");
        StoneFloors x = laid("l0,0,r5;l2,0,d3;l2,2,r4;");
        x.cover(1, 0);
        x.cover(0, 1);
        x.cover(2, 2);
        due("takeUp(0)", x.takeUp(0), 2);
        due("line(0, 3)", x.line(0, 3), NONE);
        for (int what = 4; what <= 6; what++) {
            due("line(0, " + what + ")", x.line(0, what), 0);
        }
        due("count(9)", x.count(9), 2);
        due("whose(0, 0)", x.whose(0, 0), NONE);
        due("whose(4, 0)", x.whose(4, 0), NONE);
        // CELLS that were not its stay the other one's.
        due("whose(2, 0)", x.whose(2, 0), 1);
        due("takeUp(0)", x.takeUp(0), NO);
        due("takeUp(1)", x.takeUp(1), 1);
        due("whose(2, 0)", x.whose(2, 0), NONE);
        due("whose(2, 2)", x.whose(2, 2), NONE);
        due("whose(3, 2)", x.whose(3, 2), 2);
        due("takeUp(2)", x.takeUp(2), 1);
        due("count(9)", x.count(9), 0);
        due("cover(0, 1)", x.cover(0, 1), 0);
        due("line(0, 4)", x.line(0, 4), 5);
    }

    private static void backIntoTheBag() {
        sentence("its whole STONES that were not cut ASLANT come back into their BAG");
        StoneFloors x = laid("b1,2,1,1;l0,0,r10d2;");
        due("cover(0, 1)", x.cover(0, 1), 0);
        dueBag(x, 1, 0, 0, 0);
        due("takeUp(0)", x.takeUp(0), 4);
        dueBag(x, 1, 2, 1, 1);
        dueBag(x, 0, 6, 6, 6);
        due("count(6)", x.count(6), 0);
        // They come back as they were laid, whatever JOINT is by then.
        x.cover(0, 1);
        x.joint(2);
        due("takeUp(0)", x.takeUp(0), 4);
        dueBag(x, 1, 2, 1, 1);
        // A LINE without STONES brings none back.
        StoneFloors y = laid("b0,0,0,0;l0,0,r2;l0,0,r2;");
        y.cover(0, 1);
        y.cover(1, 0);
        due("takeUp(1)", y.takeUp(1), 0);
        dueBag(y, 0, 0, 0, 0);
    }

    private static void sixAtMost() {
        sentence("(6 of a SIZE at most: more are thrown away whole)");
        StoneFloors x = laid("b0,6,6,6;l0,0,r10;l0,9,r5;l9,9,r3;");
        x.cover(0, 0);
        x.fill(0);
        due("takeUp(0) into a full bag", x.takeUp(0), 0);
        dueBag(x, 0, 6, 6, 6);
        due("count(6)", x.count(6), 10);
        x.cover(0, 0);
        x.fill(0);
        x.cover(1, 0);
        due("takeUp(0) with room for one of two", x.takeUp(0), 1);
        dueBag(x, 0, 6, 6, 6);
        due("count(6)", x.count(6), 15);
        due("takeUp(1) into a full bag", x.takeUp(1), 0);
        due("count(6)", x.count(6), 20);
        // Room for another SIZE does not help.
        x.cover(1, 0);
        x.fill(0);
        x.cover(2, 0);
        due("takeUp(1) with room for another size", x.takeUp(1), 0);
        dueBag(x, 0, 6, 5, 6);
        due("count(6)", x.count(6), 25);
        due("takeUp(2) up to six", x.takeUp(2), 1);
        dueBag(x, 0, 6, 6, 6);
        due("count(6)", x.count(6), 25);
    }

    private static void othersThrownAway() {
        sentence(", the others are thrown away whole.");
        StoneFloors x = laid("b0,0,1,2;l0,0,r4d1;l0,9,r3d2;");
        due("cover(0, 0)", x.cover(0, 0), 3);
        due("count(6)", x.count(6), 1 + 2);
        due("takeUp(0), all CUT", x.takeUp(0), 0);
        dueBag(x, 0, 0, 0, 1);
        due("count(6)", x.count(6), 3 + 4 + 1);
        // One that is whole but cut ASLANT does not come back; a whole A at a BEND does.
        due("cover(1, 1)", x.cover(1, 1), 1);
        due("count(6)", x.count(6), 8);
        due("takeUp(1)", x.takeUp(1), 1);
        dueBag(x, 1, 6, 5, 6);
        due("count(6)", x.count(6), 11);
        StoneFloors y = laid("b0,2,0,0;l0,0,r2d1;");
        due("cover(0, 0)", y.cover(0, 0), 1);
        due("takeUp(0)", y.takeUp(0), 1);
        dueBag(y, 0, 1, 0, 0);
        due("count(6)", y.count(6), 2);
    }

    private static void filled() {
        sentence("FILLED is a BAG: it has 6 of each SIZE.");
        StoneFloors x = laid("b0,6,6,5;b1,0,0,0;b2,5,6,6;l0,0,r1;");
        due("fill(0)", x.fill(0), 1);
        due("fill(1)", x.fill(1), 18);
        dueBag(x, 0, 6, 6, 6);
        dueBag(x, 1, 6, 6, 6);
        dueBag(x, 2, 5, 6, 6);
    }

    private static void changes() {
        sentence("A change: COVERED, TAKEN UP, FILLED, JOINT told anew.");
        StoneFloors x = new StoneFloors();
        x.cover(0, 0);
        due("count(7) behind cover", x.count(7), 1);
        x.takeUp(0);
        due("count(7) behind takeUp", x.count(7), 2);
        x.fill(0);
        due("count(7) behind fill", x.count(7), 3);
        x.joint(1);
        due("count(7) behind joint", x.count(7), 4);
        x.write('x');
        x.fault();
        x.lay();
        x.wipe();
        x.order(0, 0, 0, -1);
        x.way(0, 0, -1);
        due("count(7) behind calls that are none", x.count(7), 4);
    }

    private static void latestUndone() {
        sentence("UNDONE is the latest change");
        StoneFloors x = new StoneFloors();
        x.joint(1);
        x.joint(2);
        x.undo();
        due("count(4)", x.count(4), 1);
        // UNDONE is no change itself: what comes next goes on from there.
        x.cover(1, 0);
        x.undo();
        due("line(1, 3)", x.line(1, 3), NONE);
        due("count(4)", x.count(4), 1);
        due("undo()", x.undo(), 0);
        due("count(4)", x.count(4), 0);
        due("undo()", x.undo(), NO);
    }

    private static void lastSixUndone() {
        sentence("(the last 6 can be,");
        for (int many = 0; many <= 20; many++) {
            StoneFloors x = new StoneFloors();
            for (int n = 1; n <= many; n++) {
                x.joint(n % 3);
            }
            int can = Math.min(many, 6);
            due("count(7) behind " + many, x.count(7), can);
            for (int more = can - 1; more >= 0; more--) {
                due("undo() behind " + many, x.undo(), more);
                due("count(4)", x.count(4), (many - can + more) % 3);
            }
            due("undo() more than can be", x.undo(), NO);
            due("count(4)", x.count(4), (many - can) % 3);
        }
        // Changes behind UNDONE count anew.
        StoneFloors y = new StoneFloors();
        for (int n = 1; n <= 7; n++) {
            y.joint(n % 3);
        }
        y.undo();
        y.undo();
        y.fill(0);
        due("count(7)", y.count(7), 5);
        y.fill(1);
        due("count(7)", y.count(7), 6);
        y.cover(0, 2);
        due("count(7)", y.count(7), 6);
        for (int more = 5; more >= 0; more--) {
            due("undo()", y.undo(), more);
        }
        due("count(4)", y.count(4), 2);
    }

    private static void nothingBecomesAnother() {
        sentence("such by which nothing becomes another, too;");
        // A LINE of which all CELLS are another's takes no STONES and no CELLS.
        StoneFloors x = laid("l0,0,r5;l1,0,r3;");
        x.cover(0, 0);
        due("cover(1, 1)", x.cover(1, 1), 0);
        due("count(7)", x.count(7), 2);
        due("takeUp(1)", x.takeUp(1), 0);
        due("count(7)", x.count(7), 3);
        due("undo()", x.undo(), 2);
        due("line(1, 3)", x.line(1, 3), 1);
        due("undo()", x.undo(), 1);
        due("line(1, 3)", x.line(1, 3), NONE);
        due("line(0, 3)", x.line(0, 3), 0);
    }

    private static void noneBehindLaid() {
        sentence("behind LAID none can be):");
        StoneFloors x = told("l0,0,r5;");
        x.cover(1, 0);
        x.joint(1);
        due("lay()", x.lay(), 1);
        due("count(7)", x.count(7), 0);
        due("undo()", x.undo(), NO);
        due("count(0)", x.count(0), 1);
        x.joint(2);
        due("lay() once more", x.lay(), 1);
        due("undo()", x.undo(), NO);
        due("count(4)", x.count(4), 0);
        // One that was not LAID leaves them.
        StoneFloors y = told("l0,0,r13;");
        y.joint(1);
        due("lay()", y.lay(), NO);
        due("count(7)", y.count(7), 1);
        due("undo()", y.undo(), 0);
    }

    private static void asAhead() {
        sentence("LINES, BAGS, JOINT, CUTS, what was thrown away are as ahead of it.");
        Call[] calls = {x -> x.cover(0, 0), x -> x.cover(1, 1), x -> x.takeUp(0), x -> x.fill(0), x -> x.joint(2),
                x -> x.cover(0, 0)};
        String[] ahead = new String[calls.length];
        StoneFloors x = laid("b0,6,5,4;l0,0,r8d1;l4,0,d6;");
        for (int n = 0; n < calls.length; n++) {
            ahead[n] = floor(x) + cells(x);
            due("change " + n, calls[n].on(x) >= 0 ? 1 : 0, 1);
        }
        for (int n = calls.length - 1; n >= 0; n--) {
            due("undo()", x.undo(), n);
            same("all behind undo() of change " + n, floor(x) + cells(x), ahead[n]);
        }
        // What a LINE was laid of is as ahead of it, too: it comes back the same.
        StoneFloors y = laid("b0,6,5,1;l0,0,r8d1;");
        due("cover(0, 0)", y.cover(0, 0), 1);
        int back = y.takeUp(0);
        int thrown = y.count(6);
        y.undo();
        due("line(0, 6)", y.line(0, 6), 1);
        due("takeUp(0)", y.takeUp(0), back);
        due("count(6)", y.count(6), thrown);
        y.undo();
        y.undo();
        due("cover(0, 0)", y.cover(0, 0), 1);
        due("takeUp(0)", y.takeUp(0), back);
        due("count(6)", y.count(6), thrown);
        // THE TEXT is none of these.
        StoneFloors z = new StoneFloors();
        z.joint(1);
        z.write('x');
        z.undo();
        due("count(8)", z.count(8), 1);
    }

    private static void orderOfThoseThatCan() {
        sentence("ORDER in COLOURS told for LINES 0, 1, 2: of all orders in which all LINES that are not COVERED can be"
                + " COVERED one behind the other, each in its COLOUR");
        // LINE 0 can be COVERED only behind LINE 1, which spares it the CELLS amid.
        StoneFloors x = laid("b0,2,0,0;b1,0,1,0;l0,0,r6;l2,0,r2;");
        dueOrder(x, in(0, 1, 0), 1, 1, 0);
        dueOrder(x, in(1, 0, 0), NONE);
        dueOrder(x, in(0, 0, 0), NONE);
        // Together they take more STONES of one BAG than it has.
        StoneFloors y = laid("b0,0,0,1;b1,0,0,1;b2,0,0,2;l0,0,r5;l0,9,r5;");
        dueOrder(y, in(0, 0, 0), NONE);
        dueOrder(y, in(0, 1, 0), 0, 0, 1);
        dueOrder(y, in(2, 2, 0), 0, 0, 1);
        // Nothing is COVERED by the question.
        due("count(9)", y.count(9), 0);
        due("count(7)", y.count(7), 0);
        dueBag(y, 2, 0, 0, 2);
        y.cover(0, 2);
        dueOrder(y, in(2, 2, 2), 0, 1);
        dueOrder(y, in(0, 0, 0), 0, 1);
        y.cover(1, 2);
        dueOrder(y, in(0, 0, 0), 0);
    }

    private static void orderOfOthersColours() {
        sentence("(that of a LINE that is COVERED or that there is not does not matter)");
        StoneFloors x = laid("b0,0,0,0;l0,0,r5;l0,9,r5;");
        x.cover(0, 1);
        for (int c0 = 0; c0 < 3; c0++) {
            for (int c2 = 0; c2 < 3; c2++) {
                dueOrder(x, in(c0, 1, c2), 0, 1);
                dueOrder(x, in(c0, 0, c2), NONE);
            }
        }
        StoneFloors one = laid("b0,0,0,0;l0,0,r5;");
        dueOrder(one, in(1, 0, 0), 0, 0);
        dueOrder(one, in(2, 2, 1), 0, 0);
        dueOrder(one, in(0, 1, 1), NONE);
    }

    private static void orderOfFewestCuts() {
        sentence("that by which the CUTS are fewest together");
        dueOrder(new StoneFloors(), in(0, 1, 2), 2, 2, 0, 1);
        // The row ahead of the column costs no CUTS, the column ahead of the row costs three.
        StoneFloors x = laid("b0,0,6,0;b1,0,6,0;l0,0,r3;l1,0,d4;");
        dueOrder(x, in(0, 1, 0), 0, 0, 1);
        StoneFloors y = laid("b0,0,6,0;b1,0,6,0;l1,0,d4;l0,0,r3;");
        dueOrder(y, in(0, 1, 0), 0, 1, 0);
    }

    private static void orderFirst() {
        sentence("of several the first (by the LINE that comes first, the lowest ahead, then the second, ..).");
        StoneFloors x = laid("l0,0,r5;l0,2,r5;l0,4,r5;");
        dueOrder(x, in(0, 0, 0), 0, 0, 1, 2);
        dueOrder(x, in(2, 1, 0), 0, 0, 1, 2);
        x.cover(0, 0);
        dueOrder(x, in(0, 0, 0), 0, 1, 2);
        x.undo();
        x.cover(1, 0);
        dueOrder(x, in(0, 0, 0), 0, 0, 2);
        // LINE 2 has to be ahead of 1: of 0 2 1, 2 0 1, 2 1 0 the first.
        StoneFloors y = laid("b0,2,0,0;b1,0,1,0;l0,9,r2;l0,0,r6;l2,0,r2;");
        dueOrder(y, in(2, 0, 1), 1, 0, 2, 1);
        // LINE 1 has to be ahead of 0: of 1 0 2, 1 2 0, 2 1 0 the first.
        StoneFloors z = laid("b0,2,0,0;b1,0,1,0;l0,0,r6;l2,0,r2;l0,9,r2;");
        dueOrder(z, in(0, 1, 2), 1, 1, 0, 2);
    }

    private static void bad() {
        sentence("BAD: a number is none that is told (LINES, CELLS such as there are).");
        StoneFloors x = laid("l0,0,r1;l0,2,r2;");
        int[] lines = {-1, 2, 3};
        for (int[] numbers : new int[][] {lines, FAR}) {
            dueEach("line(n, 0)", x, BAD, numbers, (f, n) -> f.line(n, 0));
            dueEach("cell(n, 0)", x, BAD, numbers, (f, n) -> f.cell(n, 0));
            dueEach("piece(n, -1)", x, BAD, numbers, (f, n) -> f.piece(n, -1));
            dueEach("way(n, 0, -1)", x, BAD, numbers, (f, n) -> f.way(n, 0, -1));
            dueEach("best(n)", x, BAD, numbers, StoneFloors::best);
            dueEach("cover(n, 0)", x, BAD, numbers, (f, n) -> f.cover(n, 0));
            dueEach("takeUp(n)", x, BAD, numbers, StoneFloors::takeUp);
        }
        // A LINE that there was ahead of LAID, one that there is by LAID.
        StoneFloors y = told("l0,0,r1;");
        due("takeUp(2)", y.takeUp(2), NO);
        y.lay();
        due("takeUp(2)", y.takeUp(2), BAD);
        due("takeUp(0)", y.takeUp(0), NO);
        due("whose(20, 0)", y.whose(20, 0), BAD);
    }

    private static void no() {
        sentence("NO: not as things stand.");
        StoneFloors x = new StoneFloors();
        due("undo()", x.undo(), NO);
        due("lay()", x.lay(), NO);
        due("joint(0)", x.joint(0), NO);
        due("takeUp(1)", x.takeUp(1), NO);
        due("fill(2)", x.fill(2), NO);
        x.cover(1, 2);
        due("cover(1, 0)", x.cover(1, 0), NO);
        due("piece(1, -1)", x.piece(1, -1), NO);
        due("way(1, 0, -1)", x.way(1, 0, -1), NO);
        due("best(1)", x.best(1), NO);
        // As they stand then: the same calls once things are otherwise.
        due("joint(1)", x.joint(1), 0);
        due("joint(0)", x.joint(0), 1);
        due("fill(2)", x.fill(2), 2);
        due("takeUp(1)", x.takeUp(1), 0);
        due("cover(1, 0)", x.cover(1, 0), 0);
        due("undo()", x.undo(), 5);
    }

    private static void none() {
        sentence("NONE: there is none.");
        StoneFloors x = new StoneFloors();
        due("fault()", x.fault(), NONE);
        due("line(0, 3)", x.line(0, 3), NONE);
        due("cell(0, 19)", x.cell(0, 19), NONE);
        due("whose(0, 0)", x.whose(0, 0), NONE);
        due("piece(0, 3)", x.piece(0, 3), NONE);
        due("way(0, 1, -1)", x.way(0, 1, -1), NONE);
        due("cover(0, 1)", x.cover(0, 1), NONE);
        due("order(1, 1, 1, -1)", x.order(1, 1, 1, -1), NONE);
        due("best(0)", laid("b0,0,0,0;b1,0,0,0;b2,0,0,0;l0,0,r1;").best(0), NONE);
    }

    private static void full() {
        sentence("FULL.");
        StoneFloors x = told("x".repeat(200));
        due("write('x')", x.write('x'), FULL);
        x.wipe();
        due("write('x')", x.write('x'), 1);
    }

    private static void severalRefusals() {
        sentence("Of several the first in this order;");
        StoneFloors x = new StoneFloors();
        x.cover(1, 2);
        // BAD ahead of NO.
        due("piece(1, -2)", x.piece(1, -2), BAD);
        due("way(1, 3, -1)", x.way(1, 3, -1), BAD);
        due("way(1, -1, -1)", x.way(1, -1, -1), BAD);
        due("way(1, 0, -3)", x.way(1, 0, -3), BAD);
        due("cover(1, 3)", x.cover(1, 3), BAD);
        due("cover(1, -1)", x.cover(1, -1), BAD);
        due("cover(3, 0)", x.cover(3, 0), BAD);
        due("takeUp(3)", x.takeUp(3), BAD);
        // NO ahead of NONE.
        due("piece(1, 99)", x.piece(1, 99), NO);
        due("way(1, 0, 99)", x.way(1, 0, 99), NO);
        x.cover(0, 0);
        due("cover(0, 1)", x.cover(0, 1), NO);
        due("way(0, 1, 0)", x.way(0, 1, 0), NO);
        due("best(0)", x.best(0), NO);
        // A CELL of the COVERED LINE 1 is nobody's now, and no BAG has a STONE for it.
        StoneFloors empty = laid("b0,0,0,2;b1,0,0,0;b2,0,0,0;l0,0,r4;l3,0,d6;");
        empty.cover(0, 0);
        empty.cover(1, 0);
        empty.takeUp(0);
        due("way(1, 1, -1)", empty.way(1, 1, -1), NO);
        due("cover(1, 1)", empty.cover(1, 1), NO);
        due("best(1)", empty.best(1), NO);
        due("piece(1, -1)", empty.piece(1, -1), NO);
        due("piece(1, 1)", empty.piece(1, 1), NO);
        // BAD ahead of NONE.
        due("cell(3, 99)", x.cell(3, 99), BAD);
        due("line(0, 7)", x.line(0, 7), BAD);
        StoneFloors y = new StoneFloors();
        due("way(0, 1, -3)", y.way(0, 1, -3), BAD);
        due("order(1, 1, 1, 3)", y.order(1, 1, 1, 3), BAD);
        due("order(1, 1, 1, -2)", y.order(1, 1, 1, -2), BAD);
        due("order(1, 1, 3, 0)", y.order(1, 1, 3, 0), BAD);
        // BAD ahead of FULL.
        StoneFloors z = told("x".repeat(200));
        due("write(31)", z.write(31), BAD);
        due("write(127)", z.write(127), BAD);
        due("write(126)", z.write(126), FULL);
    }

    /** LINE 0 COVERED, 1 not, and with no WAY in COLOUR 0; a TEXT with a FAULT; changes that can be UNDONE. */
    private static StoneFloors some() {
        StoneFloors x = laid("b0,1,1,1;l0,0,r5d2;l2,0,d12;");
        x.joint(1);
        x.cover(0, 0);
        x.write('x');
        return x;
    }

    private static void nothingChanges() {
        sentence("nothing changes then.");
        dueUnchanged(ChangeBounds::some, "write(31)", x -> x.write(31), BAD);
        dueUnchanged(ChangeBounds::some, "lay()", StoneFloors::lay, NO);
        dueUnchanged(ChangeBounds::some, "joint(3)", x -> x.joint(3), BAD);
        dueUnchanged(ChangeBounds::some, "joint(1)", x -> x.joint(1), NO);
        dueUnchanged(ChangeBounds::some, "line(2, 0)", x -> x.line(2, 0), BAD);
        dueUnchanged(ChangeBounds::some, "cell(0, 7)", x -> x.cell(0, 7), NONE);
        dueUnchanged(ChangeBounds::some, "whose(20, 0)", x -> x.whose(20, 0), BAD);
        dueUnchanged(ChangeBounds::some, "piece(0, -1)", x -> x.piece(0, -1), NO);
        dueUnchanged(ChangeBounds::some, "way(1, 0, -1)", x -> x.way(1, 0, -1), NONE);
        dueUnchanged(ChangeBounds::some, "best(0)", x -> x.best(0), NO);
        dueUnchanged(ChangeBounds::some, "cover(2, 0)", x -> x.cover(2, 0), BAD);
        dueUnchanged(ChangeBounds::some, "cover(1, 3)", x -> x.cover(1, 3), BAD);
        dueUnchanged(ChangeBounds::some, "cover(0, 1)", x -> x.cover(0, 1), NO);
        dueUnchanged(ChangeBounds::some, "cover(1, 0)", x -> x.cover(1, 0), NONE);
        dueUnchanged(ChangeBounds::some, "takeUp(2)", x -> x.takeUp(2), BAD);
        dueUnchanged(ChangeBounds::some, "takeUp(1)", x -> x.takeUp(1), NO);
        dueUnchanged(ChangeBounds::some, "order(0, 0, 0, 0)", x -> x.order(0, 0, 0, 0), NONE);
        dueUnchanged(ChangeBounds::some, "bag(0, 3)", x -> x.bag(0, 3), BAD);
        dueUnchanged(ChangeBounds::some, "fill(3)", x -> x.fill(3), BAD);
        dueUnchanged(ChangeBounds::some, "fill(1)", x -> x.fill(1), NO);
        dueUnchanged(ChangeBounds::some, "drawn(420)", x -> x.drawn(420), BAD);
        dueUnchanged(ChangeBounds::some, "count(11)", x -> x.count(11), BAD);
        dueUnchanged(() -> told("l0,0,r1;"), "undo()", StoneFloors::undo, NO);
        dueUnchanged(() -> told("j0;".repeat(66) + "j0"), "write(';')", x -> x.write(';'), FULL);
    }

    private static void asItStandsThen() {
        sentence("All that is asked is told of all as it stands then;");
        // Each question is asked ahead of each change and behind it.
        StoneFloors x = laid("b1,0,0,0;l0,0,r4;l3,0,d4;");
        dueWay(x, 0, 0, 0, whole(2, 0), whole(2, 0));
        dueNoWay(x, 0, 1);
        dueOrder(x, in(0, 0, 0), 0, 0, 1);
        dueOrder(x, in(0, 1, 0), NONE);
        x.joint(1);
        dueWay(x, 0, 0, 1, cut(4, 2));
        dueOrder(x, in(0, 0, 0), 1, 0, 1);
        x.undo();
        dueWay(x, 0, 0, 0, whole(2, 0), whole(2, 0));
        dueOrder(x, in(0, 0, 0), 0, 0, 1);
        due("best(0)", x.best(0), 0);
        x.cover(1, 0);
        dueWay(x, 0, 0, 0, whole(3, 1));
        duePieces(x, 0, 3);
        dueOrder(x, in(0, 0, 0), 0, 0);
        x.fill(1);
        dueWay(x, 0, 1, 0, whole(3, 1));
        dueOrder(x, in(1, 1, 1), 0, 0);
        x.takeUp(1);
        duePieces(x, 0, 4);
        dueWay(x, 0, 1, 0, whole(2, 0), whole(2, 0));
        dueOrder(x, in(0, 1, 0), 0, 0, 1);
        // THE TEXT matters when it is LAID, not ahead of that.
        tell(x, "b0,0,0,0;l0,0,r3;");
        duePieces(x, 0, 4);
        dueWay(x, 0, 1, 0, whole(2, 0), whole(2, 0));
        dueOrder(x, in(0, 1, 0), 0, 0, 1);
        due("lay()", x.lay(), 1);
        duePieces(x, 0, 3);
        dueWay(x, 0, 1, 0, whole(3, 1));
        dueNoWay(x, 0, 0);
        dueOrder(x, in(0, 1, 0), NONE);
        due("best(0)", x.best(0), 1);
        otherSizes();
        otherColours();
    }

    /** A question asked once more when one SIZE alone is another. */
    private static void otherSizes() {
        StoneFloors x = laid("z1,3,5;l0,0,r1;");
        dueWay(x, 0, 0, 0, whole(1, 0));
        tell(x, "z2,3,5;l0,0,r1;");
        x.lay();
        dueWay(x, 0, 0, 1, cut(1, 0));
        StoneFloors y = laid("z3,4,9;l0,0,r8;");
        dueWay(y, 0, 0, 0, whole(4, 1), whole(4, 1));
        tell(y, "z3,5,9;l0,0,r8;");
        y.lay();
        dueWay(y, 0, 0, 0, whole(5, 1), whole(3, 0));
        tell(y, "z3,5,8;l0,0,r8;");
        y.lay();
        dueWay(y, 0, 0, 0, whole(8, 2));
    }

    /** A question asked once more in other COLOURS. */
    private static void otherColours() {
        StoneFloors x = laid("b0,0,0,0;l0,0,r5;l0,2,r5;l0,4,r5;");
        for (int i = 0; i < 3; i++) {
            dueOrder(x, in(1, 1, 1), 0, 0, 1, 2);
            dueOrder(x, in(i == 0 ? 0 : 1, i == 1 ? 0 : 1, i == 2 ? 0 : 1), NONE);
            dueWay(x, i, 1, 0, whole(5, 2));
            dueNoWay(x, i, 0);
        }
        dueOrder(x, in(1, 1, 1), 0, 0, 1, 2);
    }

    private static void textStays() {
        sentence("LAID, THE TEXT stays.");
        StoneFloors x = laid("l0,0,r5;");
        due("count(8)", x.count(8), 8);
        due("fault()", x.fault(), NONE);
        due("lay() once more", x.lay(), 1);
        due("write('l')", x.write('l'), 9);
        due("fault()", x.fault(), 8);
        for (char letter : "0,9,r5;".toCharArray()) {
            x.write(letter);
        }
        due("lay() with more", x.lay(), 2);
        due("wipe()", x.wipe(), 16);
        // What was LAID stays as well, whatever THE TEXT becomes.
        due("count(0)", x.count(0), 2);
        due("cell(1, 4)", x.cell(1, 4), 184);
    }
}

/** For each promise of ../shared/DOC.md ordinary inputs, the edges and wrong inputs. */
public final class PromiseTests {
    private static final int BAD = -1, NO = -2, FULL = -3, NONE = -4;
    private static int wrong = 0;
    private static String promise = "";

    public static void main(String[] args) {
        newObject();
        write();
        wipe();
        faultOfItems();
        faultOfLines();
        faultPlaces();
        lay();
        layForgets();
        joint();
        line();
        cell();
        whose();
        piece();
        pieceBetween();
        wayOrdinary();
        wayCut();
        wayWithJoints();
        wayOfNothing();
        best();
        cover();
        takeUp();
        takeUpIntoFullBag();
        order();
        orderOfFew();
        bag();
        fill();
        undo();
        undoOfEach();
        drawn();
        count();
        manyCalls();
        System.out.println("PromiseTests: " + wrong + " wrong");
        if (wrong != 0) {
            System.exit(1);
        }
    }

    private static void due(String call, int got, int want) {
        if (got != want) {
            wrong++;
            System.out.println(promise + ": " + call + " answered " + got + ", due is " + want);
        }
    }

    private static void tell(StoneFloors x, String text) {
        x.wipe();
        for (char letter : text.toCharArray()) {
            x.write(letter);
        }
    }

    private static StoneFloors laid(String text) {
        StoneFloors x = new StoneFloors();
        tell(x, text);
        if (x.lay() < 1) {
            wrong++;
            System.out.println(promise + ": not laid: " + text);
        }
        return x;
    }

    private static void dueFault(String text, int want) {
        StoneFloors x = new StoneFloors();
        tell(x, text);
        due("fault of " + text, x.fault(), want);
        due("letters of " + text, x.count(8), text.length());
    }

    /** Compares THE WAY with its told STONES, one behind the other. */
    private static void dueWay(StoneFloors x, int i, int colour, int cuts, int... stones) {
        String call = "way(" + i + ", " + colour + ", ";
        due(call + "-1)", x.way(i, colour, -1), cuts);
        due(call + "-2)", x.way(i, colour, -2), stones.length);
        for (int k = 0; k < stones.length; k++) {
            due(call + k + ")", x.way(i, colour, k), stones[k]);
        }
        due(call + "behind the last)", x.way(i, colour, stones.length), NONE);
    }

    private static int whole(int length, int size) {
        return 20 * length + 2 * size;
    }

    private static int cut(int length, int size) {
        return 20 * length + 2 * size + 1;
    }

    private static void newObject() {
        promise = "1 new object";
        StoneFloors x = new StoneFloors();
        int[] counts = {3, 2, 3, 5, 0, 0, 0, 0, 0, 0, 3};
        for (int what = 0; what < counts.length; what++) {
            due("count(" + what + ")", x.count(what), counts[what]);
        }
        int[][] bags = {{4, 4, 2}, {3, 2, 1}, {6, 6, 6}};
        for (int colour = 0; colour < 3; colour++) {
            for (int size = 0; size < 3; size++) {
                due("bag", x.bag(colour, size), bags[colour][size]);
            }
        }
        due("line(0, 1)", x.line(0, 1), 19);
        due("line(1, 1)", x.line(1, 1), 8);
        due("line(2, 1)", x.line(2, 1), 15);
        due("fault()", x.fault(), NONE);
        due("lay()", x.lay(), NO);
        due("wipe()", x.wipe(), 0);
    }

    private static void write() {
        promise = "2 write";
        StoneFloors x = new StoneFloors();
        due("write(31)", x.write(31), BAD);
        due("write(127)", x.write(127), BAD);
        due("write(-1)", x.write(-1), BAD);
        due("write(65536 + 'z')", x.write(65536 + 'z'), BAD);
        due("write(32)", x.write(32), 1);
        due("write(126)", x.write(126), 2);
        for (int n = 3; n <= 200; n++) {
            due("write(65)", x.write(65), n);
        }
        due("write(65)", x.write(65), FULL);
        due("write(31)", x.write(31), BAD);
        due("count(8)", x.count(8), 200);
    }

    private static void wipe() {
        promise = "3 wipe";
        StoneFloors x = new StoneFloors();
        tell(x, "z1,2,3;");
        due("wipe()", x.wipe(), 7);
        due("wipe()", x.wipe(), 0);
        due("write(65)", x.write(65), 1);
        due("count(8)", x.count(8), 1);
    }

    private static void faultOfItems() {
        promise = "4 fault";
        String[] good = {"", "z1,2,9;", "z01,02,09;", "j0;", "j2;", "j00;", "b0,0,0,0;", "b2,6,6,6;", "b02,06,06,06;",
                "z1,2,3;z2,3,4;", "j1;j1;", "b1,0,0,0;b1,1,1,1;"};
        for (String text : good) {
            dueFault(text, NONE);
        }
        String[] bad = {";", "z", "z1,2,3", "z0,1,2;", "z1,2,10;", "z2,2,3;", "z1,3,3;", "z3,2,1;", "z1,2;", "z1,2,3,4;",
                "z1,2,;", "z,1,2;", "z001,2,3;", "z1,2,3 ;", " z1,2,3;", "Z1,2,3;", "j3;", "j;", "j-1;", "j000;", "j1,1;",
                "b3,1,1,1;", "b0,7,1,1;", "b0,1,7,1;", "b0,1,1,7;", "b0,1,1;", "b0,1,1,1,1;", "b0 1,1,1;", "x;", "1;",
                "j1j1;"};
        for (String text : bad) {
            dueFault(text, 0);
            dueFault("j1;" + text, 3);
        }
    }

    private static void faultOfLines() {
        promise = "4 fault of lines";
        String[] good = {"l0,0,r1;", "l19,19,l12;", "l19,19,u12;", "l00,00,r01;", "l8,0,r12;", "l0,0,r12d12l11u11r10;",
                "l0,0,r1d1r1d1r1;", "l0,0,r1;l0,0,r1;l0,0,d1;", "l5,5,r1u1l1;", "l5,5,r2d2l2u2;"};
        for (String text : good) {
            dueFault(text, NONE);
        }
        String[] bad = {"l20,0,d1;", "l0,20,r1;", "l9,0,r12;", "l0,0,r0;", "l0,0,r13;", "l0,0,r;", "l0,0,;", "l0,0;",
                "l0,0,1;", "l0,0,r1r1;", "l0,0,r2l1;", "l0,0,d1u1;", "l0,0,u2;", "l0,0,l2;", "l5,5,r2d2l1u2;",
                "l0,0,r12d12l12u12;", "l0,0,r12d12l11u11r11;", "l0,0,r1,d1;", "l0,0,r1d1r1d1r1d1;", "l0,0,r001;", "l0,0,R1;", "l0,0,r1", "l0,r1;",
                "l0,0,0,r1;", "l0,0,r1d;", "l0,0,r1dd1;", "l1,1,r2d1l1u1;"};
        for (String text : bad) {
            dueFault(text, 0);
            dueFault("l0,0,r1;" + text, 8);
        }
    }

    private static void faultPlaces() {
        promise = "4 fault places";
        dueFault("l0,0,r1;l0,0,r1;l0,0,r1;l0,0,r1;", 24);
        dueFault("l0,0,r1;l0,0,r1;l0,0,r1;j1;", NONE);
        dueFault("j1;;j1;", 3);
        dueFault("j1;j9;z9,9,9;", 3);
        dueFault("z1,2,3;b0,1,1,1;j", 16);
        dueFault("z1,2,3;;", 7);
        StoneFloors x = new StoneFloors();
        tell(x, "j1;q");
        due("fault()", x.fault(), 3);
        due("count(4)", x.count(4), 0);
        due("count(0)", x.count(0), 3);
        due("line(0, 1)", x.line(0, 1), 19);
    }

    private static void lay() {
        promise = "5 lay";
        StoneFloors x = new StoneFloors();
        tell(x, "z1,2,3;j2;b0,1,2,3;");
        due("lay() without a line", x.lay(), NO);
        tell(x, "l0,0,r1;l0,0,r1");
        due("lay() with a fault", x.lay(), NO);
        due("count(1)", x.count(1), 2);
        due("count(0)", x.count(0), 3);
        tell(x, "l0,0,r4;");
        due("lay()", x.lay(), 1);
        due("count(0)", x.count(0), 1);
        due("count(1)", x.count(1), 2);
        due("count(2)", x.count(2), 3);
        due("count(3)", x.count(3), 5);
        due("count(4)", x.count(4), 0);
        due("count(8)", x.count(8), 8);
        due("bag(0, 0)", x.bag(0, 0), 6);
        due("bag(1, 2)", x.bag(1, 2), 6);
        tell(x, "z1,2,3;z4,6,8;j1;j2;b0,1,1,1;b0,0,2,3;b2,5,4,3;l0,0,r4;l1,1,d1;");
        due("lay()", x.lay(), 2);
        due("count(1)", x.count(1), 4);
        due("count(2)", x.count(2), 6);
        due("count(3)", x.count(3), 8);
        due("count(4)", x.count(4), 2);
        due("bag(0, 0)", x.bag(0, 0), 0);
        due("bag(0, 1)", x.bag(0, 1), 2);
        due("bag(0, 2)", x.bag(0, 2), 3);
        due("bag(1, 0)", x.bag(1, 0), 6);
        due("bag(2, 0)", x.bag(2, 0), 5);
    }

    private static void layForgets() {
        promise = "5 lay forgets";
        StoneFloors x = laid("j1;l0,0,r4d4;");
        due("cover(0, 0)", x.cover(0, 0), 2);
        due("joint(2)", x.joint(2), 1);
        due("count(7)", x.count(7), 2);
        due("lay() again", x.lay(), 1);
        due("count(4)", x.count(4), 1);
        due("count(5)", x.count(5), 0);
        due("count(6)", x.count(6), 0);
        due("count(7)", x.count(7), 0);
        due("count(9)", x.count(9), 0);
        due("undo()", x.undo(), NO);
        due("whose(0, 0)", x.whose(0, 0), NONE);
        due("bag(0, 0)", x.bag(0, 0), 6);
        due("bag(0, 2)", x.bag(0, 2), 6);
        due("line(0, 3)", x.line(0, 3), NONE);
    }

    private static void joint() {
        promise = "6 joint";
        StoneFloors x = new StoneFloors();
        due("joint(-1)", x.joint(-1), BAD);
        due("joint(3)", x.joint(3), BAD);
        due("joint(0)", x.joint(0), NO);
        due("count(7)", x.count(7), 0);
        due("joint(2)", x.joint(2), 0);
        due("joint(2)", x.joint(2), NO);
        due("joint(1)", x.joint(1), 2);
        due("count(4)", x.count(4), 1);
        due("count(7)", x.count(7), 2);
    }

    private static void line() {
        promise = "7 line";
        StoneFloors x = new StoneFloors();
        due("line(-1, 0)", x.line(-1, 0), BAD);
        due("line(3, 0)", x.line(3, 0), BAD);
        due("line(0, -1)", x.line(0, -1), BAD);
        due("line(0, 7)", x.line(0, 7), BAD);
        int[][] before = {{3, 19, 2, NONE, 0, 0, 0}, {1, 8, 0, NONE, 0, 0, 0}, {2, 15, 1, NONE, 0, 0, 0}};
        for (int i = 0; i < 3; i++) {
            for (int what = 0; what < 7; what++) {
                due("line(" + i + ", " + what + ")", x.line(i, what), before[i][what]);
            }
        }
        x.cover(1, 1);
        x.cover(0, 0);
        int[] second = {1, 8, 0, 1, 8, 2, 0};
        for (int what = 0; what < 7; what++) {
            due("line(1, " + what + ")", x.line(1, what), second[what]);
        }
        due("line(0, 3)", x.line(0, 3), 0);
        due("line(0, 4)", x.line(0, 4), 18);
        x.takeUp(1);
        due("line(1, 3)", x.line(1, 3), NONE);
        due("line(1, 4)", x.line(1, 4), 0);
        due("line(1, 5)", x.line(1, 5), 0);
        due("line(0, 4)", x.line(0, 4), 18);
        StoneFloors y = laid("l3,3,r1;");
        due("line(1, 0)", y.line(1, 0), BAD);
        due("line(0, 0)", y.line(0, 0), 1);
    }

    private static void cell() {
        promise = "8 cell";
        StoneFloors x = laid("l5,6,l3u2r2;");
        int[] cells = {125, 124, 123, 103, 83, 84, 85};
        for (int k = 0; k < cells.length; k++) {
            due("cell(0, " + k + ")", x.cell(0, k), cells[k]);
        }
        due("cell(0, 7)", x.cell(0, 7), NONE);
        due("cell(0, 2147483647)", x.cell(0, Integer.MAX_VALUE), NONE);
        due("cell(0, -1)", x.cell(0, -1), BAD);
        due("cell(1, 0)", x.cell(1, 0), BAD);
        due("cell(-1, 0)", x.cell(-1, 0), BAD);
    }

    private static void whose() {
        promise = "9 whose";
        StoneFloors x = new StoneFloors();
        due("whose(-1, 0)", x.whose(-1, 0), BAD);
        due("whose(20, 0)", x.whose(20, 0), BAD);
        due("whose(0, -1)", x.whose(0, -1), BAD);
        due("whose(0, 20)", x.whose(0, 20), BAD);
        due("whose(19, 19)", x.whose(19, 19), NONE);
        due("whose(6, 2)", x.whose(6, 2), NONE);
        x.cover(1, 1);
        x.cover(0, 0);
        due("whose(6, 2)", x.whose(6, 2), 1);
        due("whose(5, 2)", x.whose(5, 2), 0);
        x.takeUp(1);
        due("whose(6, 2)", x.whose(6, 2), NONE);
        due("whose(5, 2)", x.whose(5, 2), 0);
        x.cover(1, 1);
        due("whose(6, 2)", x.whose(6, 2), 1);
    }

    private static void piece() {
        promise = "10 piece";
        StoneFloors x = new StoneFloors();
        due("piece(0, -2)", x.piece(0, -2), BAD);
        due("piece(3, -1)", x.piece(3, -1), BAD);
        due("piece(-1, 0)", x.piece(-1, 0), BAD);
        due("piece(0, 3)", x.piece(0, 3), NONE);
        x.cover(1, 1);
        due("piece(1, -1)", x.piece(1, -1), NO);
        due("piece(1, -2)", x.piece(1, -2), BAD);
        due("piece(1, 9)", x.piece(1, 9), NO);
        int[] pieces = {4, 4, 6, 4};
        due("piece(0, -1)", x.piece(0, -1), 4);
        for (int k = 0; k < pieces.length; k++) {
            due("piece(0, " + k + ")", x.piece(0, k), pieces[k]);
        }
        due("piece(0, 4)", x.piece(0, 4), NONE);
    }

    private static void pieceBetween() {
        promise = "10 piece between";
        StoneFloors x = laid("l0,0,r5d5;l0,0,r5;l4,1,d5;");
        x.cover(1, 0);
        due("piece(0, -1)", x.piece(0, -1), 1);
        due("piece(0, 0)", x.piece(0, 0), 5);
        x.cover(2, 0);
        due("piece(0, -1)", x.piece(0, -1), 0);
        due("piece(0, 0)", x.piece(0, 0), NONE);
        x.takeUp(1);
        due("piece(0, -1)", x.piece(0, -1), 1);
        due("piece(0, 0)", x.piece(0, 0), 5);
    }

    private static void wayOrdinary() {
        promise = "11 way";
        StoneFloors x = new StoneFloors();
        due("way(-1, 0, 0)", x.way(-1, 0, 0), BAD);
        due("way(3, 0, 0)", x.way(3, 0, 0), BAD);
        due("way(0, -1, 0)", x.way(0, -1, 0), BAD);
        due("way(0, 3, 0)", x.way(0, 3, 0), BAD);
        due("way(0, 0, -3)", x.way(0, 0, -3), BAD);
        dueWay(x, 0, 0, 1, whole(5, 2), whole(2, 0), whole(2, 0), whole(3, 1), whole(3, 1), whole(2, 0), whole(2, 0));
        x.cover(0, 0);
        due("way(0, 0, -1)", x.way(0, 0, -1), NO);
        due("way(0, 1, -1)", x.way(0, 1, -1), NO);
        due("way(0, 3, -1)", x.way(0, 3, -1), BAD);
        due("way(0, 1, -3)", x.way(0, 1, -3), BAD);
    }

    private static void wayCut() {
        promise = "11 way with cuts";
        StoneFloors x = laid("b0,0,0,1;b1,1,0,0;b2,0,1,1;l0,0,r4;l0,1,r1d1;l0,4,r5d2;");
        dueWay(x, 0, 0, 1, cut(4, 2));
        due("way(0, 1, -1)", x.way(0, 1, -1), NONE);
        dueWay(x, 0, 2, 1, cut(4, 2));
        due("way(1, 0, -1)", x.way(1, 0, -1), NONE);
        dueWay(x, 1, 2, 3, cut(1, 1), cut(1, 2));
        dueWay(x, 2, 2, 2, whole(5, 2), cut(2, 1));
        StoneFloors y = laid("l0,0,r4d1;l0,3,r3d2;l0,9,r1;");
        dueWay(y, 0, 0, 1, whole(2, 0), whole(2, 0), cut(1, 0));
        dueWay(y, 1, 0, 1, whole(3, 1), whole(2, 0));
        dueWay(y, 2, 0, 1, cut(1, 0));
        StoneFloors z = laid("z2,4,9;b0,0,1,1;l0,0,r1;");
        dueWay(z, 0, 0, 1, cut(1, 1));
    }

    private static void wayWithJoints() {
        promise = "11 way with joints";
        StoneFloors x = laid("j2;b0,6,0,0;l0,0,r7;l0,2,r8;l0,4,r6;");
        dueWay(x, 0, 0, 3, cut(1, 0), cut(1, 0), cut(1, 0));
        dueWay(x, 1, 0, 2, whole(2, 0), cut(1, 0), cut(1, 0));
        dueWay(x, 2, 0, 0, whole(2, 0), whole(2, 0));
        StoneFloors y = laid("z1,2,3;j1;b0,6,0,0;b1,0,0,1;l0,0,r2;l0,2,r3;l0,4,r11;");
        due("way(0, 0, -1)", y.way(0, 0, -1), NONE);
        dueWay(y, 0, 1, 1, cut(2, 2));
        dueWay(y, 1, 0, 0, whole(1, 0), whole(1, 0));
        dueWay(y, 2, 0, 0, whole(1, 0), whole(1, 0), whole(1, 0), whole(1, 0), whole(1, 0), whole(1, 0));
        due("way(2, 1, -1)", y.way(2, 1, -1), NONE);
        y.joint(2);
        due("way(1, 0, -2)", y.way(1, 0, -2), NONE);
    }

    private static void wayOfNothing() {
        promise = "11 way of no pieces";
        StoneFloors x = laid("b1,0,0,0;l0,0,r4d1;l0,0,r4;");
        due("cover(0, 0)", x.cover(0, 0), 1);
        due("piece(1, -1)", x.piece(1, -1), 0);
        dueWay(x, 1, 1, 0);
        due("best(1)", x.best(1), 0);
        due("cover(1, 1)", x.cover(1, 1), 0);
        due("line(1, 3)", x.line(1, 3), 1);
        due("line(1, 4)", x.line(1, 4), 0);
        due("line(1, 5)", x.line(1, 5), 0);
        due("whose(0, 0)", x.whose(0, 0), 0);
        due("drawn(0)", x.drawn(0), 'a');
        due("takeUp(0)", x.takeUp(0), 2);
        due("drawn(0)", x.drawn(0), '+');
        due("whose(0, 0)", x.whose(0, 0), NONE);
        due("takeUp(1)", x.takeUp(1), 0);
    }

    private static void best() {
        promise = "12 best";
        StoneFloors x = laid("b0,0,0,1;b1,0,1,0;b2,0,1,0;l0,0,r3;l5,0,r4;l5,3,d9;");
        due("best(-1)", x.best(-1), BAD);
        due("best(3)", x.best(3), BAD);
        due("best(0)", x.best(0), 1);
        due("best(1)", x.best(1), 0);
        due("best(2)", x.best(2), NONE);
        x.cover(0, 1);
        due("best(0)", x.best(0), NO);
    }

    private static void cover() {
        promise = "13 cover";
        StoneFloors x = new StoneFloors();
        due("cover(-1, 0)", x.cover(-1, 0), BAD);
        due("cover(3, 0)", x.cover(3, 0), BAD);
        due("cover(0, -1)", x.cover(0, -1), BAD);
        due("cover(0, 3)", x.cover(0, 3), BAD);
        due("cover(0, 1)", x.cover(0, 1), NONE);
        due("count(7)", x.count(7), 0);
        due("cover(0, 0)", x.cover(0, 0), 1);
        due("cover(0, 0)", x.cover(0, 0), NO);
        due("cover(0, 3)", x.cover(0, 3), BAD);
        due("count(5)", x.count(5), 1);
        due("count(7)", x.count(7), 1);
        due("count(9)", x.count(9), 1);
        StoneFloors y = laid("b0,0,0,2;l0,0,r1;l0,2,r4;l0,4,r5;");
        due("cover(0, 0)", y.cover(0, 0), 1);
        due("count(6)", y.count(6), 4);
        due("cover(1, 0)", y.cover(1, 0), 1);
        due("count(6)", y.count(6), 5);
        due("count(5)", y.count(5), 2);
        due("bag(0, 2)", y.bag(0, 2), 0);
        due("cover(2, 0)", y.cover(2, 0), NONE);
        due("cover(2, 1)", y.cover(2, 1), 0);
    }

    private static void takeUp() {
        promise = "14 takeUp";
        StoneFloors x = laid("b0,0,1,2;l0,0,r4d1;l0,2,r3;");
        due("takeUp(-1)", x.takeUp(-1), BAD);
        due("takeUp(2)", x.takeUp(2), BAD);
        due("takeUp(0)", x.takeUp(0), NO);
        due("cover(0, 0)", x.cover(0, 0), 3);
        dueWay(x, 1, 0, 1, cut(3, 2));
        due("count(6)", x.count(6), 1 + 2);
        due("takeUp(0)", x.takeUp(0), 0);
        due("count(6)", x.count(6), 8);
        due("bag(0, 1)", x.bag(0, 1), 0);
        due("bag(0, 2)", x.bag(0, 2), 1);
        due("count(5)", x.count(5), 3);
        due("count(9)", x.count(9), 0);
        due("takeUp(0)", x.takeUp(0), NO);
        StoneFloors y = laid("l0,0,r5;l0,2,r3d2;");
        due("cover(0, 2)", y.cover(0, 2), 0);
        due("bag(2, 2)", y.bag(2, 2), 5);
        due("takeUp(0)", y.takeUp(0), 1);
        due("bag(2, 2)", y.bag(2, 2), 6);
        due("count(6)", y.count(6), 0);
        due("cover(1, 1)", y.cover(1, 1), 1);
        due("takeUp(1)", y.takeUp(1), 1);
        due("bag(1, 1)", y.bag(1, 1), 5);
        due("bag(1, 0)", y.bag(1, 0), 6);
        due("count(6)", y.count(6), 3);
    }

    private static void takeUpIntoFullBag() {
        promise = "14 takeUp into a full bag";
        StoneFloors x = laid("b0,6,6,5;l0,0,r10;l0,2,r3;");
        due("cover(0, 0)", x.cover(0, 0), 0);
        due("bag(0, 2)", x.bag(0, 2), 3);
        due("fill(0)", x.fill(0), 3);
        due("takeUp(0)", x.takeUp(0), 0);
        due("count(6)", x.count(6), 10);
        due("bag(0, 2)", x.bag(0, 2), 6);
        due("cover(0, 0)", x.cover(0, 0), 0);
        due("fill(0)", x.fill(0), 2);
        due("cover(1, 0)", x.cover(1, 0), 0);
        due("takeUp(0)", x.takeUp(0), 0);
        due("takeUp(1)", x.takeUp(1), 1);
        due("count(6)", x.count(6), 20);
    }

    private static void order() {
        promise = "15 order";
        StoneFloors x = new StoneFloors();
        due("order(-1, 0, 0, 0)", x.order(-1, 0, 0, 0), BAD);
        due("order(3, 0, 0, 0)", x.order(3, 0, 0, 0), BAD);
        due("order(0, -1, 0, 0)", x.order(0, -1, 0, 0), BAD);
        due("order(0, 3, 0, 0)", x.order(0, 3, 0, 0), BAD);
        due("order(0, 0, 3, 0)", x.order(0, 0, 3, 0), BAD);
        due("order(0, 0, 0, -2)", x.order(0, 0, 0, -2), BAD);
        due("order(0, 0, 0, 3)", x.order(0, 0, 0, 3), BAD);
        due("order(0, 1, 2, -1)", x.order(0, 1, 2, -1), 2);
        due("order(1, 1, 1, 0)", x.order(1, 1, 1, 0), NONE);
        due("order(0, 1, 2, 0)", x.order(0, 1, 2, 0), 2);
        due("order(0, 1, 2, 1)", x.order(0, 1, 2, 1), 0);
        due("order(0, 1, 2, 2)", x.order(0, 1, 2, 2), 1);
        due("count(9)", x.count(9), 0);
        due("count(7)", x.count(7), 0);
        x.cover(2, 2);
        due("order(0, 1, 1, -1)", x.order(0, 1, 1, -1), 2);
        due("order(0, 1, 1, 0)", x.order(0, 1, 1, 0), 0);
        due("order(0, 1, 1, 1)", x.order(0, 1, 1, 1), 1);
        due("order(0, 1, 1, 2)", x.order(0, 1, 1, 2), NONE);
    }

    private static void orderOfFew() {
        promise = "15 order of few";
        StoneFloors x = laid("l0,0,r5;");
        due("order(0, 3, 0, -1)", x.order(0, 3, 0, -1), BAD);
        due("order(0, 0, 0, -1)", x.order(0, 0, 0, -1), 0);
        due("order(0, 0, 0, 0)", x.order(0, 0, 0, 0), 0);
        due("order(0, 0, 0, 1)", x.order(0, 0, 0, 1), NONE);
        x.cover(0, 0);
        due("order(0, 0, 0, -1)", x.order(0, 0, 0, -1), 0);
        due("order(0, 0, 0, 0)", x.order(0, 0, 0, 0), NONE);
        due("order(3, 0, 0, -1)", x.order(3, 0, 0, -1), BAD);
        StoneFloors y = laid("l0,0,r6;l2,0,r1;b0,6,6,6;b1,0,1,0;");
        due("order(0, 1, 0, -1)", y.order(0, 1, 0, -1), 0);
        due("order(0, 1, 0, 0)", y.order(0, 1, 0, 0), 0);
        StoneFloors z = laid("l0,0,r6;l2,0,r2;b0,6,0,0;b1,0,1,0;");
        due("order(0, 1, 0, -1)", z.order(0, 1, 0, -1), 0);
        due("order(1, 0, 0, -1)", z.order(1, 0, 0, -1), NONE);
        StoneFloors alike = laid("l0,0,r5;l0,2,r5;l0,4,r5;");
        for (int k = 0; k < 3; k++) {
            due("order(0, 0, 0, " + k + ")", alike.order(0, 0, 0, k), k);
        }
        alike.cover(1, 0);
        due("order(0, 0, 0, 1)", alike.order(0, 0, 0, 1), 2);
    }

    private static void bag() {
        promise = "16 bag";
        StoneFloors x = new StoneFloors();
        due("bag(-1, 0)", x.bag(-1, 0), BAD);
        due("bag(3, 0)", x.bag(3, 0), BAD);
        due("bag(0, -1)", x.bag(0, -1), BAD);
        due("bag(0, 3)", x.bag(0, 3), BAD);
        due("bag(1, 2)", x.bag(1, 2), 1);
        due("bag(2, 2)", x.bag(2, 2), 6);
        x.cover(1, 1);
        due("bag(1, 2)", x.bag(1, 2), 0);
        due("bag(1, 1)", x.bag(1, 1), 1);
        due("bag(1, 0)", x.bag(1, 0), 3);
    }

    private static void fill() {
        promise = "17 fill";
        StoneFloors x = new StoneFloors();
        due("fill(-1)", x.fill(-1), BAD);
        due("fill(3)", x.fill(3), BAD);
        due("fill(2)", x.fill(2), NO);
        due("fill(1)", x.fill(1), 12);
        due("fill(1)", x.fill(1), NO);
        due("bag(1, 0)", x.bag(1, 0), 6);
        due("bag(1, 2)", x.bag(1, 2), 6);
        due("bag(0, 2)", x.bag(0, 2), 2);
        due("count(7)", x.count(7), 1);
        due("count(6)", x.count(6), 0);
    }

    private static void undo() {
        promise = "18 undo";
        StoneFloors x = new StoneFloors();
        due("undo()", x.undo(), NO);
        for (int n = 1; n <= 9; n++) {
            due("joint", x.joint(n % 3), (n - 1) % 3);
            due("count(7)", x.count(7), Math.min(n, 6));
        }
        for (int n = 8; n >= 3; n--) {
            due("undo()", x.undo(), n - 3);
            due("count(4)", x.count(4), n % 3);
        }
        due("undo()", x.undo(), NO);
        due("count(4)", x.count(4), 0);
        due("joint(1)", x.joint(1), 0);
        due("undo()", x.undo(), 0);
    }

    private static void undoOfEach() {
        promise = "18 undo of each";
        StoneFloors x = laid("b0,6,5,1;l0,0,r8d1;l4,0,d6;");
        String[] seen = new String[5];
        seen[0] = all(x);
        x.cover(0, 0);
        seen[1] = all(x);
        x.cover(1, 1);
        seen[2] = all(x);
        x.fill(0);
        seen[3] = all(x);
        x.takeUp(0);
        seen[4] = all(x);
        x.joint(2);
        for (int n = 4; n >= 0; n--) {
            due("undo()", x.undo(), n);
            due("all as ahead of change " + n, all(x).equals(seen[n]) ? 1 : 0, 1);
        }
        due("cover(0, 3)", x.cover(0, 3), BAD);
        due("takeUp(0)", x.takeUp(0), NO);
        due("fill(2)", x.fill(2), NO);
        due("count(7)", x.count(7), 0);
        due("cover(0, 0)", x.cover(0, 0), 1);
        due("count(6)", x.count(6), 1);
        due("takeUp(0)", x.takeUp(0), 3);
        due("count(6)", x.count(6), 2);
        due("undo()", x.undo(), 1);
        due("line(0, 6)", x.line(0, 6), 1);
        due("count(6)", x.count(6), 1);
        due("takeUp(0)", x.takeUp(0), 3);
        due("count(6)", x.count(6), 2);
    }

    /** All answers about a floor, but how many changes can be undone. */
    private static String all(StoneFloors x) {
        StringBuilder all = new StringBuilder();
        for (int k = 0; k < 420; k++) {
            all.append((char) x.drawn(k));
        }
        for (int what = 0; what <= 10; what++) {
            all.append(what == 7 ? 0 : x.count(what)).append(' ');
        }
        for (int i = 0; i < 3; i++) {
            for (int k = 0; k < 7; k++) {
                all.append(x.line(i, k)).append(' ').append(x.piece(i, k)).append(' ');
                all.append(x.way(i, k % 3, k - 2)).append(' ').append(x.bag(i, k)).append(' ');
            }
        }
        return all.append(x.order(0, 0, 0, -1)).toString();
    }

    private static void drawn() {
        promise = "19 drawn";
        StoneFloors x = new StoneFloors();
        due("drawn(-1)", x.drawn(-1), BAD);
        due("drawn(420)", x.drawn(420), BAD);
        due("drawn(419)", x.drawn(419), '/');
        due("drawn(20)", x.drawn(20), '/');
        due("drawn(0)", x.drawn(0), '.');
        due("drawn(6)", x.drawn(6), '+');
        due("drawn(105)", x.drawn(105), '+');
        x.cover(0, 0);
        x.cover(1, 1);
        x.cover(2, 2);
        String[] rows = {"......b.............", "......b.............", "..aaaaaaaaac........", "......b...ac........",
                "......b...ac........", "ccccccbcccac........", "......b...a.........", "......b...a.........",
                "......aaaaa........."};
        dueRows(x, rows);
        x.takeUp(0);
        rows[2] = "..+++++++++c........";
        rows[3] = "......b...+c........";
        rows[4] = "......b...+c........";
        rows[5] = "ccccccbccc+c........";
        rows[6] = "......b...+.........";
        rows[7] = "......b...+.........";
        rows[8] = "......+++++.........";
        dueRows(x, rows);
        x.undo();
        due("drawn(48)", x.drawn(48), 'a');
    }

    private static void dueRows(StoneFloors x, String[] rows) {
        for (int y = 0; y < 20; y++) {
            String row = y < rows.length ? rows[y] : "....................";
            for (int k = 0; k < 20; k++) {
                due("drawn(" + (21 * y + k) + ")", x.drawn(21 * y + k), row.charAt(k));
            }
            due("drawn(" + (21 * y + 20) + ")", x.drawn(21 * y + 20), '/');
        }
    }

    private static void count() {
        promise = "20 count";
        StoneFloors x = new StoneFloors();
        due("count(-1)", x.count(-1), BAD);
        due("count(11)", x.count(11), BAD);
        StoneFloors y = laid("z3,5,8;j1;l0,0,r6;l0,0,r6;l3,0,d4;");
        int[] counts = {3, 3, 5, 8, 1, 0, 0, 0, 34, 0, 6};
        for (int what = 0; what < counts.length; what++) {
            due("count(" + what + ")", y.count(what), counts[what]);
        }
        due("cover(0, 0)", y.cover(0, 0), 1);
        due("count(5)", y.count(5), 1);
        due("count(6)", y.count(6), 2);
        due("count(7)", y.count(7), 1);
        due("count(9)", y.count(9), 1);
        due("count(10)", y.count(10), 6);
    }

    /** An object goes on without a fault for many calls, whatever they ask. */
    private static void manyCalls() {
        promise = "many calls";
        int[] odd = {Integer.MIN_VALUE, -5, -1, 0, 1, 2, 3, 19, 20, 60, 420, Integer.MAX_VALUE};
        StoneFloors x = new StoneFloors();
        for (int a : odd) {
            x.write(a);
            x.joint(a);
            x.best(a);
            x.takeUp(a);
            x.fill(a);
            x.drawn(a);
            x.count(a);
            for (int b : odd) {
                x.line(a, b);
                x.cell(a, b);
                x.whose(a, b);
                x.piece(a, b);
                x.cover(a, b);
                x.bag(a, b);
                for (int c : odd) {
                    x.way(a, b, c);
                    x.order(a, b, c, 0);
                    x.order(0, a, b, c);
                }
            }
            x.undo();
        }
        due("count(0)", x.count(0), 3);
    }
}

import java.util.Arrays;

/** Floors of small stones, as ../shared/DOC.md tells them; words in capitals are that document's. */
public final class StoneFloors {
    public static final int BAD = -1, NO = -2, FULL = -3, NONE = -4;

    private static final int SIDE = 20;
    private static final int GROUND = SIDE * SIDE;
    private static final int DRAWN_ROW = SIDE + 1;
    private static final int MOST_LINES = 3;
    private static final int MOST_RUNS = 5;
    private static final int LONGEST_RUN = 12;
    private static final int MOST_CELLS = MOST_RUNS * LONGEST_RUN;
    private static final int MOST_LETTERS = 200;
    private static final int FIRST_LETTER = 32;
    private static final int LAST_LETTER = 126;
    private static final int COLOURS = 3;
    private static final int SIZES = 3;
    private static final int LONGEST_STONE = 9;
    private static final int WIDEST_JOINT = 2;
    private static final int BAG_HOLDS = 6;
    private static final int MOST_STONES = SIZES * BAG_HOLDS;
    private static final int MOST_UNDONE = 6;
    private static final String FIRST_TEXT =
            "z2,3,5;j0;b0,4,4,2;b1,3,2,1;l2,2,r9d6l4;l6,0,d8;l0,5,r12u3;";

    private final Reader reader = new Reader();
    private final Finder finder = new Finder();
    private final Floor floor = new Floor();
    private final Past past = new Past();
    private final Orders orders = new Orders();
    private final Way[] ways = new Way[MOST_LINES * COLOURS];
    private Plan plan = new Plan();
    /** A TEXT is read into this one, so that the laid plan stays when there is a FAULT. */
    private Plan draft = new Plan();

    public StoneFloors() {
        for (int w = 0; w < ways.length; w++) {
            ways[w] = new Way();
        }
        for (int at = 0; at < FIRST_TEXT.length(); at++) {
            reader.append(FIRST_TEXT.charAt(at));
        }
        layText();
        reader.length = 0;
    }

    // ---- told

    public int write(int letter) {
        if (letter < FIRST_LETTER || letter > LAST_LETTER) {
            return BAD;
        }
        if (reader.length >= MOST_LETTERS) {
            return FULL;
        }
        reader.append((char) letter);
        return reader.length;
    }

    public int wipe() {
        int before = reader.length;
        reader.length = 0;
        return before;
    }

    public int fault() {
        return reader.firstFault(draft);
    }

    public int lay() {
        return layText();
    }

    public int joint(int j) {
        if (j < 0 || j > WIDEST_JOINT) {
            return BAD;
        }
        if (j == floor.joint) {
            return NO;
        }
        beginChange();
        int before = floor.joint;
        floor.joint = j;
        return before;
    }

    // ---- lines

    public int line(int i, int what) {
        if (!isLine(i)) {
            return BAD;
        }
        switch (what) {
            case 0:
                return plan.paths[i].runs;
            case 1:
                return plan.paths[i].cells;
            case 2:
                return plan.paths[i].runs - 1;
            case 3:
                return floor.colours[i];
            case 4:
                return floor.cellsOf(i, plan.paths[i]);
            case 5:
                return floor.stones[i];
            case 6:
                return floor.cuts[i];
            default:
                return BAD;
        }
    }

    public int cell(int i, int k) {
        if (!isLine(i) || k < 0) {
            return BAD;
        }
        return k < plan.paths[i].cells ? plan.paths[i].spots[k] : NONE;
    }

    public int whose(int x, int y) {
        if (!isOnGround(x, y)) {
            return BAD;
        }
        return floor.owners[SIDE * y + x];
    }

    public int piece(int i, int k) {
        if (!isLine(i) || k < -1) {
            return BAD;
        }
        if (floor.isCovered(i)) {
            return NO;
        }
        Pieces pieces = finder.pieces;
        pieces.split(plan.paths[i], floor.owners);
        if (k == -1) {
            return pieces.count;
        }
        return k < pieces.count ? pieces.cells[k] : NONE;
    }

    // ---- the way

    public int way(int i, int colour, int k) {
        if (!isLine(i) || !isColour(colour) || k < -2) {
            return BAD;
        }
        if (floor.isCovered(i)) {
            return NO;
        }
        Way found = wayOf(i, colour);
        if (!found.exists) {
            return NONE;
        }
        if (k == -1) {
            return found.cuts;
        }
        if (k == -2) {
            return found.count;
        }
        return k < found.count ? found.stones[k] : NONE;
    }

    public int best(int i) {
        if (!isLine(i)) {
            return BAD;
        }
        if (floor.isCovered(i)) {
            return NO;
        }
        int bestColour = NONE;
        int fewest = 0;
        for (int colour = 0; colour < COLOURS; colour++) {
            Way found = wayOf(i, colour);
            if (found.exists && (bestColour == NONE || found.cuts < fewest)) {
                bestColour = colour;
                fewest = found.cuts;
            }
        }
        return bestColour;
    }

    public int cover(int i, int colour) {
        if (!isLine(i) || !isColour(colour)) {
            return BAD;
        }
        if (floor.isCovered(i)) {
            return NO;
        }
        Way found = wayOf(i, colour);
        if (!found.exists) {
            return NONE;
        }
        beginChange();
        floor.putDown(i, plan.paths[i], colour, found);
        return found.cuts;
    }

    public int takeUp(int i) {
        if (!isLine(i)) {
            return BAD;
        }
        if (!floor.isCovered(i)) {
            return NO;
        }
        beginChange();
        return floor.pickUp(i, plan.paths[i], plan.sizes);
    }

    public int order(int c0, int c1, int c2, int k) {
        if (!isColour(c0) || !isColour(c1) || !isColour(c2) || k < -1 || k >= MOST_LINES) {
            return BAD;
        }
        if (!orders.isFor(c0, c1, c2)) {
            orders.begin(c0, c1, c2);
            searchOrders(0, floor, 0);
        }
        if (!orders.found) {
            return NONE;
        }
        if (k == -1) {
            return orders.fewest;
        }
        return k < orders.count ? orders.first[k] : NONE;
    }

    // ---- bags

    public int bag(int colour, int size) {
        if (!isColour(colour) || size < 0 || size >= SIZES) {
            return BAD;
        }
        return floor.bags[colour * SIZES + size];
    }

    public int fill(int colour) {
        if (!isColour(colour)) {
            return BAD;
        }
        int missing = floor.missingIn(colour);
        if (missing == 0) {
            return NO;
        }
        beginChange();
        for (int size = 0; size < SIZES; size++) {
            floor.bags[colour * SIZES + size] = BAG_HOLDS;
        }
        return missing;
    }

    public int undo() {
        if (past.count == 0) {
            return NO;
        }
        past.giveBack(floor);
        forgetAnswers();
        return past.count;
    }

    // ---- drawn

    public int drawn(int k) {
        if (k < 0 || k >= DRAWN_ROW * SIDE) {
            return BAD;
        }
        int column = k % DRAWN_ROW;
        if (column == SIDE) {
            return '/';
        }
        int spot = SIDE * (k / DRAWN_ROW) + column;
        int owner = floor.owners[spot];
        if (isLine(owner)) {
            return 'a' + floor.colours[owner];
        }
        for (int i = 0; i < plan.lines; i++) {
            if (!floor.isCovered(i) && plan.goesOver(i, spot)) {
                return '+';
            }
        }
        return '.';
    }

    public int count(int what) {
        switch (what) {
            case 0:
                return plan.lines;
            case 1:
            case 2:
            case 3:
                return plan.sizes[what - 1];
            case 4:
                return floor.joint;
            case 5:
                return floor.cutsSoFar;
            case 6:
                return floor.thrownAway;
            case 7:
                return past.count;
            case 8:
                return reader.length;
            case 9:
                return plan.lines - uncovered();
            case 10:
                return plan.sharedCells();
            default:
                return BAD;
        }
    }

    private int layText() {
        if (reader.firstFault(draft) != NONE || draft.lines == 0) {
            return NO;
        }
        Plan before = plan;
        plan = draft;
        draft = before;
        floor.begin(plan);
        past.count = 0;
        forgetAnswers();
        return plan.lines;
    }

    private void beginChange() {
        past.keep(floor);
        forgetAnswers();
    }

    private void forgetAnswers() {
        for (int w = 0; w < ways.length; w++) {
            ways[w].known = false;
        }
        orders.known = false;
    }

    private Way wayOf(int i, int colour) {
        Way kept = ways[i * COLOURS + colour];
        if (!kept.known) {
            finder.find(plan.paths[i], plan.sizes, floor, colour, kept);
            kept.known = true;
        }
        return kept;
    }

    /** Tries the orders from the first to the last, so that of like ones the first is kept. */
    private void searchOrders(int depth, Floor now, int cuts) {
        int open = 0;
        for (int i = 0; i < plan.lines; i++) {
            if (now.isCovered(i)) {
                continue;
            }
            open++;
            if (depth >= MOST_LINES) {
                continue;
            }
            Path path = plan.paths[i];
            Way next = orders.tried;
            finder.find(path, plan.sizes, now, orders.colours[i], next);
            int together = cuts + next.cuts;
            if (next.exists && orders.isFewer(together)) {
                orders.floors[depth].copy(now);
                orders.floors[depth].putDown(i, path, orders.colours[i], next);
                orders.trial[depth] = i;
                searchOrders(depth + 1, orders.floors[depth], together);
            }
        }
        if (open == 0 && orders.isFewer(cuts)) {
            orders.keepTrial(depth, cuts);
        }
    }

    private int uncovered() {
        int open = 0;
        for (int i = 0; i < plan.lines; i++) {
            if (!floor.isCovered(i)) {
                open++;
            }
        }
        return open;
    }

    private boolean isLine(int i) {
        return i >= 0 && i < plan.lines;
    }

    private static boolean isColour(int colour) {
        return colour >= 0 && colour < COLOURS;
    }

    private static boolean isOnGround(int x, int y) {
        return x >= 0 && x < SIDE && y >= 0 && y < SIDE;
    }

    /** The CELLS of one LINE, in its order. */
    private static final class Path {
        final int[] spots = new int[MOST_CELLS];
        /** The number of the last CELL of each RUN. */
        final int[] runEnds = new int[MOST_RUNS];
        int cells;
        int runs;
        private int headX;
        private int headY;
        private boolean wentAcross;

        void begin(int x, int y) {
            cells = 0;
            runs = 0;
            headX = x;
            headY = y;
        }

        /** Adds a RUN; false if the LINE can't go so. */
        boolean go(int dx, int dy, int length, int[] over, int mark) {
            boolean across = dx != 0;
            if (runs >= MOST_RUNS || runs > 0 && across == wentAcross) {
                return false;
            }
            for (int step = 0; step < length; step++) {
                if (cells > 0) {
                    headX += dx;
                    headY += dy;
                }
                if (cells >= MOST_CELLS || !isOnGround(headX, headY)) {
                    return false;
                }
                int spot = SIDE * headY + headX;
                if ((over[spot] & mark) != 0) {
                    return false;
                }
                over[spot] |= mark;
                spots[cells] = spot;
                cells++;
            }
            wentAcross = across;
            runEnds[runs] = cells - 1;
            runs++;
            return true;
        }
    }

    /** What a TEXT tells. */
    private static final class Plan {
        final int[] sizes = new int[SIZES];
        final int[] bags = new int[COLOURS * SIZES];
        final Path[] paths = new Path[MOST_LINES];
        /** For each CELL a bit for each LINE that goes over it. */
        final int[] over = new int[GROUND];
        int joint;
        int lines;

        Plan() {
            for (int i = 0; i < MOST_LINES; i++) {
                paths[i] = new Path();
            }
        }

        void clear() {
            sizes[0] = 2;
            sizes[1] = 3;
            sizes[2] = 5;
            Arrays.fill(bags, BAG_HOLDS);
            Arrays.fill(over, 0);
            joint = 0;
            lines = 0;
        }

        boolean goesOver(int i, int spot) {
            return (over[spot] & (1 << i)) != 0;
        }

        int sharedCells() {
            int shared = 0;
            for (int spot = 0; spot < GROUND; spot++) {
                if (Integer.bitCount(over[spot]) > 1) {
                    shared++;
                }
            }
            return shared;
        }
    }

    /** THE TEXT, and how it is read. */
    private static final class Reader {
        private static final int UNREAD = -1;

        private final char[] letters = new char[MOST_LETTERS];
        private final int[] numbers = new int[4];
        private int at;
        int length;

        void append(char letter) {
            if (length < MOST_LETTERS) {
                letters[length] = letter;
                length++;
            }
        }

        /** Reads THE TEXT into a plan, which is good for nothing if there is a FAULT. */
        int firstFault(Plan into) {
            into.clear();
            at = 0;
            for (int items = 0; items < MOST_LETTERS && at < length; items++) {
                int start = at;
                if (!readItem(into)) {
                    return start;
                }
            }
            return NONE;
        }

        private boolean readItem(Plan into) {
            boolean good = false;
            if (take('z')) {
                good = readSizes(into);
            } else if (take('j')) {
                good = readJoint(into);
            } else if (take('b')) {
                good = readBag(into);
            } else if (take('l')) {
                good = readLine(into);
            }
            return good && take(';');
        }

        private boolean readSizes(Plan into) {
            if (!readNumbers(SIZES, 1, LONGEST_STONE)) {
                return false;
            }
            if (numbers[0] >= numbers[1] || numbers[1] >= numbers[2]) {
                return false;
            }
            System.arraycopy(numbers, 0, into.sizes, 0, SIZES);
            return true;
        }

        private boolean readJoint(Plan into) {
            if (!readNumbers(1, 0, WIDEST_JOINT)) {
                return false;
            }
            into.joint = numbers[0];
            return true;
        }

        private boolean readBag(Plan into) {
            if (!readNumbers(1 + SIZES, 0, BAG_HOLDS) || !isColour(numbers[0])) {
                return false;
            }
            System.arraycopy(numbers, 1, into.bags, numbers[0] * SIZES, SIZES);
            return true;
        }

        private boolean readLine(Plan into) {
            if (into.lines >= MOST_LINES || !readNumbers(2, 0, SIDE - 1) || !take(',')) {
                return false;
            }
            Path path = into.paths[into.lines];
            path.begin(numbers[0], numbers[1]);
            for (int runs = 0; runs < MOST_RUNS; runs++) {
                if (!readRun(path, into.over, 1 << into.lines)) {
                    return false;
                }
                if (at < length && letters[at] == ';') {
                    into.lines++;
                    return true;
                }
            }
            return false;
        }

        private boolean readRun(Path path, int[] over, int mark) {
            int dx = 0;
            int dy = 0;
            if (take('r')) {
                dx = 1;
            } else if (take('l')) {
                dx = -1;
            } else if (take('u')) {
                dy = -1;
            } else if (take('d')) {
                dy = 1;
            } else {
                return false;
            }
            int cells = readNumber(1, LONGEST_RUN);
            return cells != UNREAD && path.go(dx, dy, cells, over, mark);
        }

        /** Reads so many numbers with a , between two of them. */
        private boolean readNumbers(int many, int low, int high) {
            for (int n = 0; n < many && n < numbers.length; n++) {
                if (n > 0 && !take(',')) {
                    return false;
                }
                numbers[n] = readNumber(low, high);
                if (numbers[n] == UNREAD) {
                    return false;
                }
            }
            return true;
        }

        private int readNumber(int low, int high) {
            int value = 0;
            int figures = 0;
            while (figures < 2 && at < length && letters[at] >= '0' && letters[at] <= '9') {
                value = 10 * value + (letters[at] - '0');
                figures++;
                at++;
            }
            return figures > 0 && value >= low && value <= high ? value : UNREAD;
        }

        private boolean take(char letter) {
            if (at >= length || letters[at] != letter) {
                return false;
            }
            at++;
            return true;
        }
    }

    /** All that changes can change: what is COVERED, BAGS, JOINT, CUTS, what was thrown away. */
    private static final class Floor {
        final int[] owners = new int[GROUND];
        final int[] bags = new int[COLOURS * SIZES];
        final int[] colours = new int[MOST_LINES];
        final int[] stones = new int[MOST_LINES];
        final int[] cuts = new int[MOST_LINES];
        /** Of each LINE and SIZE the STONES that can come back, and of each LINE the length of the others. */
        private final int[] sound = new int[MOST_LINES * SIZES];
        private final int[] spoiled = new int[MOST_LINES];
        int joint;
        int cutsSoFar;
        int thrownAway;

        void begin(Plan plan) {
            Arrays.fill(owners, NONE);
            System.arraycopy(plan.bags, 0, bags, 0, bags.length);
            for (int i = 0; i < MOST_LINES; i++) {
                strip(i);
            }
            joint = plan.joint;
            cutsSoFar = 0;
            thrownAway = 0;
        }

        void copy(Floor from) {
            System.arraycopy(from.owners, 0, owners, 0, owners.length);
            System.arraycopy(from.bags, 0, bags, 0, bags.length);
            System.arraycopy(from.colours, 0, colours, 0, colours.length);
            System.arraycopy(from.stones, 0, stones, 0, stones.length);
            System.arraycopy(from.cuts, 0, cuts, 0, cuts.length);
            System.arraycopy(from.sound, 0, sound, 0, sound.length);
            System.arraycopy(from.spoiled, 0, spoiled, 0, spoiled.length);
            joint = from.joint;
            cutsSoFar = from.cutsSoFar;
            thrownAway = from.thrownAway;
        }

        boolean isCovered(int i) {
            return colours[i] != NONE;
        }

        int cellsOf(int i, Path path) {
            int its = 0;
            for (int k = 0; k < path.cells; k++) {
                if (owners[path.spots[k]] == i) {
                    its++;
                }
            }
            return its;
        }

        int missingIn(int colour) {
            int missing = 0;
            for (int size = 0; size < SIZES; size++) {
                missing += BAG_HOLDS - bags[colour * SIZES + size];
            }
            return missing;
        }

        void putDown(int i, Path path, int colour, Way way) {
            handOver(path, NONE, i);
            for (int size = 0; size < SIZES; size++) {
                bags[colour * SIZES + size] -= way.used[size];
                sound[i * SIZES + size] = way.sound[size];
            }
            colours[i] = colour;
            stones[i] = way.count;
            cuts[i] = way.cuts;
            spoiled[i] = way.spoiled;
            cutsSoFar += way.cuts;
            thrownAway += way.cutOff;
        }

        /** Takes a COVERED LINE up: how many STONES came back. */
        int pickUp(int i, Path path, int[] sizes) {
            int back = 0;
            for (int size = 0; size < SIZES; size++) {
                int its = sound[i * SIZES + size];
                int inBag = colours[i] * SIZES + size;
                int kept = Math.min(its, BAG_HOLDS - bags[inBag]);
                bags[inBag] += kept;
                back += kept;
                thrownAway += (its - kept) * sizes[size];
            }
            thrownAway += spoiled[i];
            handOver(path, i, NONE);
            strip(i);
            return back;
        }

        private void handOver(Path path, int from, int to) {
            for (int k = 0; k < path.cells; k++) {
                if (owners[path.spots[k]] == from) {
                    owners[path.spots[k]] = to;
                }
            }
        }

        private void strip(int i) {
            colours[i] = NONE;
            stones[i] = 0;
            cuts[i] = 0;
            spoiled[i] = 0;
            Arrays.fill(sound, i * SIZES, i * SIZES + SIZES, 0);
        }
    }

    /** The floor as it was ahead of each change that can be UNDONE. */
    private static final class Past {
        private final Floor[] floors = new Floor[MOST_UNDONE];
        int count;

        Past() {
            for (int f = 0; f < MOST_UNDONE; f++) {
                floors[f] = new Floor();
            }
        }

        void keep(Floor now) {
            if (count == MOST_UNDONE) {
                dropOldest();
            }
            floors[count].copy(now);
            count++;
        }

        void giveBack(Floor now) {
            if (count > 0) {
                count--;
                now.copy(floors[count]);
            }
        }

        private void dropOldest() {
            Floor oldest = floors[0];
            for (int f = 1; f < MOST_UNDONE; f++) {
                floors[f - 1] = floors[f];
            }
            floors[MOST_UNDONE - 1] = oldest;
            count--;
        }
    }

    /** The PIECES of a LINE. */
    private static final class Pieces {
        final int[] cells = new int[MOST_CELLS];
        final boolean[] atBend = new boolean[MOST_CELLS];
        int count;

        void split(Path path, int[] owners) {
            count = 0;
            int k = 0;
            for (int run = 0; run < path.runs; run++) {
                int row = 0;
                for (; k <= path.runEnds[run]; k++) {
                    if (owners[path.spots[k]] == NONE) {
                        row++;
                    } else {
                        add(row, false);
                        row = 0;
                    }
                }
                add(row, run < path.runs - 1);
            }
        }

        private void add(int row, boolean bendBehind) {
            if (row > 0 && count < MOST_CELLS) {
                cells[count] = row;
                atBend[count] = bendBehind;
                count++;
            }
        }
    }

    /** THE WAY of a LINE in a COLOUR, if there is one. */
    private static final class Way {
        final int[] stones = new int[MOST_STONES];
        final int[] used = new int[SIZES];
        /** Whole STONES that are not cut ASLANT; of the others the length as they lie. */
        final int[] sound = new int[SIZES];
        int spoiled;
        int count;
        int cuts;
        int cutOff;
        boolean exists;
        boolean known;

        void clear() {
            Arrays.fill(used, 0);
            Arrays.fill(sound, 0);
            spoiled = 0;
            count = 0;
            cuts = 0;
            cutOff = 0;
            exists = false;
        }

        void add(int length, int size, int uncut, boolean aslant) {
            if (count >= MOST_STONES) {
                return;
            }
            boolean cut = length < uncut;
            stones[count] = 20 * length + 2 * size + (cut ? 1 : 0);
            count++;
            used[size]++;
            cutOff += uncut - length;
            if (cut || aslant) {
                spoiled += length;
            } else {
                sound[size]++;
            }
        }
    }

    /**
     * What a PIECE can take out of a BAG and how many CUTS that costs. Left out is what takes no
     * less of any SIZE and costs no less than another: it is in no WAY of the fewest CUTS and STONES.
     */
    private static final class Layings {
        /**
         * No PIECE needs more CUT ones than 3. Of three of them the least SIZE can be whole if
         * together they are longer than it by 2; else one can be left out and the other two, made
         * longer, fill its place and its JOINT's. The latter fails only for three of SIZE 2 cut
         * to 1 with JOINT 2, and four of those are as long as three whole ones.
         */
        private static final int MOST_CUT = 3;
        /** Over all SIZES, JOINTS and lengths the longest list has just so many. */
        private static final int LONGEST_LIST = 16;

        final int[] taken = new int[LONGEST_LIST * SIZES];
        final int[] costs = new int[LONGEST_LIST];
        int count;
        boolean known;

        void list(int cells, boolean atBend, int[] sizes, int joint) {
            count = 0;
            known = true;
            for (int cut = 0; cut <= MOST_CUT; cut++) {
                for (int a = 0; a <= BAG_HOLDS; a++) {
                    int cost = atBend && a == 0 ? cut + 1 : cut;
                    for (int b = 0; b <= BAG_HOLDS; b++) {
                        int whole = a * sizes[0] + b * sizes[1];
                        int left = cells - whole - (a + b + cut - 1) * joint;
                        for (int c = 0; c <= BAG_HOLDS && left >= cut; c++) {
                            listCut(a, b, c, cut, left, cost, sizes);
                            left -= sizes[2] + joint;
                        }
                    }
                }
            }
        }

        /** Adds CUT ones, so many, that fill what whole ones left. */
        private void listCut(int a, int b, int c, int cut, int left, int cost, int[] sizes) {
            int mostOfA = sizes[0] > 1 ? cut : 0;
            for (int cutA = 0; cutA <= mostOfA; cutA++) {
                for (int cutB = 0; cutA + cutB <= cut; cutB++) {
                    int cutC = cut - cutA - cutB;
                    int longest = cutA * (sizes[0] - 1) + cutB * (sizes[1] - 1) + cutC * (sizes[2] - 1);
                    if (left <= longest) {
                        add(a + cutA, b + cutB, c + cutC, cost);
                    }
                }
            }
        }

        private void add(int a, int b, int c, int cost) {
            if (a > BAG_HOLDS || b > BAG_HOLDS || c > BAG_HOLDS || count >= LONGEST_LIST) {
                return;
            }
            for (int n = 0; n < count; n++) {
                if (costs[n] <= cost && canBeTakenFrom(a, b, c, n)) {
                    return;
                }
            }
            taken[count * SIZES] = a;
            taken[count * SIZES + 1] = b;
            taken[count * SIZES + 2] = c;
            costs[count] = cost;
            count++;
        }

        boolean canBeTakenFrom(int a, int b, int c, int n) {
            int first = n * SIZES;
            return taken[first] <= a && taken[first + 1] <= b && taken[first + 2] <= c;
        }

        int stones(int n) {
            int first = n * SIZES;
            return taken[first] + taken[first + 1] + taken[first + 2];
        }
    }

    /** Finds THE WAY: what the rest of a LINE is worth tells which STONE comes next. */
    private static final class Finder {
        /** A worth is CUTS times this and STONES together, so that CUTS count first. */
        private static final int CUT_WORTH = 32;
        private static final int NO_WAY = 1 << 20;
        private static final int UNKNOWN = -1;
        private static final int COUNTS = BAG_HOLDS + 1;
        private static final int BAG_STATES = COUNTS * COUNTS * COUNTS;

        final Pieces pieces = new Pieces();
        private final Layings[] layings = new Layings[2 * LONGEST_RUN];
        /** For each PIECE and BAG what it and those behind it are worth. */
        private int[] worths = new int[MOST_RUNS * BAG_STATES];
        private final int[] sizes = new int[SIZES];
        private final int[] left = new int[SIZES];
        private int joint;
        private int piece;
        private int room;
        private int worth;

        Finder() {
            for (int n = 0; n < layings.length; n++) {
                layings[n] = new Layings();
            }
        }

        void find(Path path, int[] stoneSizes, Floor floor, int colour, Way way) {
            way.clear();
            pieces.split(path, floor.owners);
            if (pieces.count > MOST_STONES) {
                return;
            }
            keepSizes(stoneSizes, floor.joint);
            for (int p = 0; p < pieces.count; p++) {
                for (int cells = 1; cells <= pieces.cells[p]; cells++) {
                    Layings those = layingsOf(cells, pieces.atBend[p]);
                    if (!those.known) {
                        those.list(cells, pieces.atBend[p], sizes, joint);
                    }
                }
            }
            forgetWorths();
            System.arraycopy(floor.bags, colour * SIZES, left, 0, SIZES);
            piece = 0;
            room = cellsOf(0);
            worth = worthOf(0, room, left[0], left[1], left[2]);
            if (worth >= NO_WAY) {
                return;
            }
            way.exists = true;
            way.cuts = worth / CUT_WORTH;
            for (int n = 0; n < MOST_STONES && piece < pieces.count; n++) {
                setStone(way);
            }
        }

        private void keepSizes(int[] stoneSizes, int newJoint) {
            boolean same = joint == newJoint;
            for (int size = 0; size < SIZES; size++) {
                same = same && sizes[size] == stoneSizes[size];
            }
            if (same) {
                return;
            }
            System.arraycopy(stoneSizes, 0, sizes, 0, SIZES);
            joint = newJoint;
            for (int n = 0; n < layings.length; n++) {
                layings[n].known = false;
            }
        }

        /** The row grows for the few LINES that have more PIECES than RUNS can be. */
        private void forgetWorths() {
            int slots = pieces.count * BAG_STATES;
            if (worths.length < slots) {
                worths = new int[MOST_STONES * BAG_STATES];
            }
            Arrays.fill(worths, 0, slots, UNKNOWN);
        }

        private Layings layingsOf(int cells, boolean atBend) {
            return layings[2 * (cells - 1) + (atBend ? 1 : 0)];
        }

        private int cellsOf(int p) {
            return p < pieces.count ? pieces.cells[p] : 0;
        }

        /** What so many last CELLS of a PIECE and all PIECES behind it are worth at the least. */
        private int worthOf(int p, int cells, int a, int b, int c) {
            if (p >= pieces.count || p >= MOST_STONES) {
                return 0;
            }
            int slot = p * BAG_STATES + (a * COUNTS + b) * COUNTS + c;
            boolean all = cells == pieces.cells[p];
            if (all && worths[slot] != UNKNOWN) {
                return worths[slot];
            }
            Layings those = layingsOf(cells, pieces.atBend[p]);
            int least = NO_WAY;
            for (int n = 0; n < those.count; n++) {
                int own = those.costs[n] * CUT_WORTH + those.stones(n);
                if (own < least && those.canBeTakenFrom(a, b, c, n)) {
                    int first = n * SIZES;
                    int behind = worthOf(p + 1, cellsOf(p + 1), a - those.taken[first],
                            b - those.taken[first + 1], c - those.taken[first + 2]);
                    least = Math.min(least, own + behind);
                }
            }
            if (all) {
                worths[slot] = least;
            }
            return least;
        }

        /** Sets the first STONE, the longer ones ahead, behind which the rest is worth what is left. */
        private void setStone(Way way) {
            for (int length = Math.min(room, LONGEST_STONE); length > 0; length--) {
                for (int size = 0; size < SIZES; size++) {
                    if (sizes[size] >= length && left[size] > 0 && isNext(length, size)) {
                        boolean aslant = isAslant(length, size);
                        worth -= ownWorth(length, size);
                        way.add(length, size, sizes[size], aslant);
                        left[size]--;
                        goBehind(length);
                        return;
                    }
                }
            }
        }

        private boolean isNext(int length, int size) {
            int after = room - length;
            if (after > 0 && after <= joint) {
                return false;
            }
            left[size]--;
            int behind = after == 0
                    ? worthOf(piece + 1, cellsOf(piece + 1), left[0], left[1], left[2])
                    : worthOf(piece, after - joint, left[0], left[1], left[2]);
            left[size]++;
            return ownWorth(length, size) + behind == worth;
        }

        private int ownWorth(int length, int size) {
            int cuts = (length < sizes[size] ? 1 : 0) + (isAslant(length, size) ? 1 : 0);
            return cuts * CUT_WORTH + 1;
        }

        private boolean isAslant(int length, int size) {
            boolean wholeA = size == 0 && length == sizes[0];
            return length == room && pieces.atBend[piece] && !wholeA;
        }

        private void goBehind(int length) {
            if (length == room) {
                piece++;
                room = cellsOf(piece);
            } else {
                room -= length + joint;
            }
        }
    }

    /** The search for ORDER, and its answer as long as nothing changes. */
    private static final class Orders {
        final int[] colours = new int[MOST_LINES];
        final int[] trial = new int[MOST_LINES];
        final int[] first = new int[MOST_LINES];
        final Floor[] floors = new Floor[MOST_LINES];
        final Way tried = new Way();
        int count;
        int fewest;
        boolean found;
        boolean known;

        Orders() {
            for (int f = 0; f < MOST_LINES; f++) {
                floors[f] = new Floor();
            }
        }

        boolean isFor(int c0, int c1, int c2) {
            return known && colours[0] == c0 && colours[1] == c1 && colours[2] == c2;
        }

        void begin(int c0, int c1, int c2) {
            colours[0] = c0;
            colours[1] = c1;
            colours[2] = c2;
            count = 0;
            fewest = 0;
            found = false;
            known = true;
        }

        boolean isFewer(int cuts) {
            return !found || cuts < fewest;
        }

        void keepTrial(int lines, int cuts) {
            System.arraycopy(trial, 0, first, 0, lines);
            count = lines;
            fewest = cuts;
            found = true;
        }
    }
}

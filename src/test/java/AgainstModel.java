import java.util.Random;

/** Random runs of calls, each answered by StoneFloors and by PlainModel; the seeds are fixed. */
public final class AgainstModel {
    private static int wrong = 0;
    private static long calls = 0;

    private final Random random;
    private final StoneFloors floors = new StoneFloors();
    private final PlainModel model = new PlainModel();
    private final StringBuilder log = new StringBuilder();
    private final int seed;
    /** Large floors make the model slow, so that most runs have small ones. */
    private final boolean large;
    /** Lines told anywhere seldom meet; close ones do, so that covered ones cut up the others. */
    private final boolean close;

    private AgainstModel(int seed) {
        this.seed = seed;
        large = seed % 20 == 0;
        close = seed % 4 == 1;
        random = new Random(seed);
    }

    public static void main(String[] args) {
        int runs = args.length > 0 ? Integer.parseInt(args[0]) : 400;
        int first = args.length > 1 ? Integer.parseInt(args[1]) : 1;
        for (int seed = first; seed < first + runs; seed++) {
            new AgainstModel(seed).run();
        }
        System.out.println("AgainstModel: " + calls + " calls, " + wrong + " wrong");
        if (wrong != 0) {
            System.exit(1);
        }
    }

    private void run() {
        int left = 500;
        while (left > 0 && wrong < 5) {
            left -= random.nextInt(4) == 0 ? 0 : tell();
            int more = random.nextInt(large ? 12 : 60);
            for (int n = 0; n < more && left > 0; n++, left--) {
                call();
            }
            if (!large) {
                compareAll();
            }
        }
    }

    private void due(String call, int got, int want) {
        calls++;
        log.append(call).append(" = ").append(got).append("; ");
        if (got != want) {
            wrong++;
            System.out.println("seed " + seed + ": " + call + " answered " + got + ", due is " + want
                    + "\n  behind " + log);
        }
    }

    private int below(int n) {
        return random.nextInt(n);
    }

    /** Mostly a good number, now and then one that is not. */
    private int near(int low, int high) {
        int dice = below(30);
        if (dice == 0) return low - 1;
        if (dice == 1) return high + 1;
        if (dice == 2 && below(4) == 0) return below(2) == 0 ? Integer.MIN_VALUE : Integer.MAX_VALUE;
        return low + below(high - low + 1);
    }

    private int tell() {
        String text = text();
        due("wipe()", floors.wipe(), model.wipe());
        for (char letter : text.toCharArray()) {
            due("write(" + (int) letter + ")", floors.write(letter), model.write(letter));
        }
        due("fault()", floors.fault(), model.fault());
        due("lay()", floors.lay(), model.lay());
        return 20;
    }

    private String text() {
        StringBuilder t = new StringBuilder();
        int items = 1 + below(7);
        for (int n = 0; n < items; n++) {
            t.append(item()).append(';');
        }
        if (below(6) == 0 && t.length() > 0) {
            String signs = "zjblrud,;0123456789 x";
            char sign = signs.charAt(below(signs.length()));
            int at = below(t.length());
            if (below(3) == 0) t.deleteCharAt(at);
            else if (below(2) == 0) t.setCharAt(at, sign);
            else t.insert(at, sign);
        }
        return t.toString();
    }

    private String item() {
        if (close && below(2) == 0) return closeLine();
        int kind = below(10);
        if (kind < 2) {
            int a = 1 + below(7), b = a + 1 + below(8 - a), c = b + 1 + below(9 - b);
            if (below(15) == 0) c = b;
            return "z" + number(a) + "," + number(b) + "," + number(c);
        }
        if (kind == 2) return "j" + number(below(25) == 0 ? 3 : below(3));
        if (kind < 5) {
            int most = below(25) == 0 ? 8 : large ? 7 : 2 + below(4);
            return "b" + number(below(30) == 0 ? 3 : below(3)) + "," + number(below(most)) + ","
                    + number(below(most)) + "," + number(below(most));
        }
        StringBuilder t = new StringBuilder("l" + number(below(16)) + "," + number(below(16)) + ",");
        int runs = 1 + below(large ? 5 : 4) + (below(30) == 0 ? 3 : 0);
        boolean across = below(2) == 0;
        for (int r = 0; r < runs; r++) {
            t.append(across ? below(3) == 0 ? 'l' : 'r' : below(3) == 0 ? 'u' : 'd');
            t.append(number(1 + below(large ? 12 : 7)));
            across = below(40) == 0 ? across : !across;
        }
        return t.toString();
    }

    /** A line that mostly winds on in steps or comes back, near the middle of the ground. */
    private String closeLine() {
        StringBuilder t = new StringBuilder("l" + (5 + below(7)) + "," + (5 + below(7)) + ",");
        int runs = 2 + below(4);
        boolean across = below(2) == 0;
        int turn = below(2);
        for (int r = 0; r < runs; r++) {
            int hand = below(4) == 0 ? below(2) : r / 2 % 2;
            t.append(across ? hand == turn ? 'l' : 'r' : hand == 0 ? 'u' : 'd');
            t.append(1 + below(r == 0 ? 8 : 5));
            across = !across;
        }
        return t.toString();
    }

    private String number(int n) {
        return n < 10 && below(12) == 0 ? "0" + n : "" + n;
    }

    private void call() {
        int i = near(0, 2), c = near(0, 2), k;
        switch (below(20)) {
            case 0, 1, 2, 3 -> due("cover(" + i + ", " + c + ")", floors.cover(i, c), model.cover(i, c));
            case 4, 5 -> due("takeUp(" + i + ")", floors.takeUp(i), model.takeUp(i));
            case 6 -> due("fill(" + c + ")", floors.fill(c), model.fill(c));
            case 7 -> due("joint(" + c + ")", floors.joint(c), model.joint(c));
            case 8, 9 -> due("undo()", floors.undo(), model.undo());
            case 10 -> due("piece(" + i + ", " + (k = near(-1, 4)) + ")", floors.piece(i, k), model.piece(i, k));
            case 11, 12 -> {
                k = near(-2, 9);
                due("way(" + i + ", " + c + ", " + k + ")", floors.way(i, c, k), model.way(i, c, k));
            }
            case 13 -> due("best(" + i + ")", floors.best(i), model.best(i));
            case 14 -> {
                int c1 = near(0, 2), c2 = near(0, 2);
                k = near(-1, 2);
                due("order(" + c + ", " + c1 + ", " + c2 + ", " + k + ")",
                        floors.order(c, c1, c2, k), model.order(c, c1, c2, k));
            }
            case 15 -> due("line(" + i + ", " + (k = near(0, 6)) + ")", floors.line(i, k), model.line(i, k));
            case 16 -> due("cell(" + i + ", " + (k = near(0, 30)) + ")", floors.cell(i, k), model.cell(i, k));
            case 17 -> {
                int x = near(0, 19), y = near(0, 19);
                due("whose(" + x + ", " + y + ")", floors.whose(x, y), model.whose(x, y));
            }
            case 18 -> due("drawn(" + (k = near(0, 419)) + ")", floors.drawn(k), model.drawn(k));
            default -> due("count(" + (k = near(0, 10)) + ")", floors.count(k), model.count(k));
        }
    }

    /** All that can be asked cheaply. */
    private void compareAll() {
        for (int what = 0; what <= 10; what++) due("count(" + what + ")", floors.count(what), model.count(what));
        for (int i = 0; i < 3; i++) {
            for (int what = 0; what <= 6; what++) {
                due("line(" + i + ", " + what + ")", floors.line(i, what), model.line(i, what));
            }
            for (int size = 0; size < 3; size++) {
                due("bag(" + i + ", " + size + ")", floors.bag(i, size), model.bag(i, size));
            }
            for (int k = -2; k < 19; k++) {
                int colour = below(3);
                if (below(3) == 0) {
                    due("way(" + i + ", " + colour + ", " + k + ")", floors.way(i, colour, k), model.way(i, colour, k));
                }
            }
        }
        for (int k = 0; k < 420; k += 1 + below(40)) due("drawn(" + k + ")", floors.drawn(k), model.drawn(k));
    }
}

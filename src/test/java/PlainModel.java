import java.util.ArrayList;
import java.util.HashMap;
import java.util.HashSet;
import java.util.List;
import java.util.Map;
import java.util.Set;
import java.util.TreeMap;
import java.util.regex.Matcher;
import java.util.regex.Pattern;

/** The document told once more, in the plainest way and with no thought of speed. */
final class PlainModel {
    static final int BAD = -1, NO = -2, FULL = -3, NONE = -4;
    static final String FIRST = "z2,3,5;j0;b0,4,4,2;b1,3,2,1;l2,2,r9d6l4;l6,0,d8;l0,5,r12u3;";
    private static final Pattern ITEM = Pattern.compile(
            "z(\\d\\d?),(\\d\\d?),(\\d\\d?);|j(\\d\\d?);|b(\\d\\d?),(\\d\\d?),(\\d\\d?),(\\d\\d?);"
            + "|l(\\d\\d?),(\\d\\d?),((?:[rlud]\\d\\d?){1,5});");

    record Cell(int x, int y) { }

    record Stone(int length, int size, boolean cut, boolean aslant) {
        int cuts() {
            return (cut ? 1 : 0) + (aslant ? 1 : 0);
        }

        int told() {
            return 20 * length + 2 * size + (cut ? 1 : 0);
        }
    }

    record Piece(int cells, boolean bend) { }

    /** A way from some place on: its first stone and the way behind it. */
    record Chain(int cuts, int stones, Stone first, Chain behind) { }

    static final Chain END = new Chain(0, 0, null, null);

    static final class Covered {
        int colour;
        List<Stone> stones;
    }

    /** All that can be undone. */
    static final class State {
        Map<Cell, Integer> owner = new HashMap<>();
        Map<Integer, Covered> covered = new TreeMap<>();
        int[][] bags = new int[3][3];
        int joint;
        int cuts;
        int thrown;

        State copy() {
            State s = new State();
            s.owner.putAll(owner);
            s.covered.putAll(covered);
            for (int c = 0; c < 3; c++) {
                s.bags[c] = bags[c].clone();
            }
            s.joint = joint;
            s.cuts = cuts;
            s.thrown = thrown;
            return s;
        }
    }

    static final class Told {
        int[] sizes = {2, 3, 5};
        int joint = 0;
        int[][] bags = {{6, 6, 6}, {6, 6, 6}, {6, 6, 6}};
        List<List<List<Cell>>> lines = new ArrayList<>();
        int fault = NONE;
    }

    StringBuilder text = new StringBuilder();
    Told told;
    State now;
    List<State> past = new ArrayList<>();

    PlainModel() {
        text.append(FIRST);
        lay();
        text.setLength(0);
    }

    int write(int letter) {
        if (letter < 32 || letter > 126) return BAD;
        if (text.length() == 200) return FULL;
        text.append((char) letter);
        return text.length();
    }

    int wipe() {
        int n = text.length();
        text.setLength(0);
        return n;
    }

    int fault() {
        return read().fault;
    }

    int lay() {
        Told t = read();
        if (t.fault != NONE || t.lines.isEmpty()) return NO;
        told = t;
        now = new State();
        now.joint = t.joint;
        for (int c = 0; c < 3; c++) now.bags[c] = t.bags[c].clone();
        past.clear();
        return t.lines.size();
    }

    private Told read() {
        Told t = new Told();
        Matcher m = ITEM.matcher(text);
        int at = 0;
        while (at < text.length()) {
            m.region(at, text.length());
            if (!m.lookingAt() || !take(t, m)) {
                t.fault = at;
                return t;
            }
            at = m.end();
        }
        return t;
    }

    private static int num(Matcher m, int group) {
        return Integer.parseInt(m.group(group));
    }

    private static boolean take(Told t, Matcher m) {
        char kind = m.group().charAt(0);
        if (kind == 'z') {
            int a = num(m, 1), b = num(m, 2), c = num(m, 3);
            if (a < 1 || a >= b || b >= c || c > 9) return false;
            t.sizes = new int[] {a, b, c};
        } else if (kind == 'j') {
            if (num(m, 4) > 2) return false;
            t.joint = num(m, 4);
        } else if (kind == 'b') {
            if (num(m, 5) > 2) return false;
            int[] bag = {num(m, 6), num(m, 7), num(m, 8)};
            for (int n : bag) if (n > 6) return false;
            t.bags[num(m, 5)] = bag;
        } else {
            if (t.lines.size() == 3) return false;
            List<List<Cell>> line = runs(num(m, 9), num(m, 10), m.group(11));
            if (line == null) return false;
            t.lines.add(line);
        }
        return true;
    }

    private static List<List<Cell>> runs(int x, int y, String told) {
        List<List<Cell>> runs = new ArrayList<>();
        Set<Cell> seen = new HashSet<>();
        Matcher m = Pattern.compile("([rlud])(\\d+)").matcher(told);
        String before = "";
        while (m.find()) {
            String way = m.group(1);
            String axis = "rl".contains(way) ? "across" : "down";
            int n = Integer.parseInt(m.group(2));
            if (axis.equals(before) || n < 1 || n > 12) return null;
            before = axis;
            int dx = way.equals("r") ? 1 : way.equals("l") ? -1 : 0;
            int dy = way.equals("d") ? 1 : way.equals("u") ? -1 : 0;
            List<Cell> run = new ArrayList<>();
            for (int k = 0; k < n; k++) {
                if (!seen.isEmpty()) {
                    x += dx;
                    y += dy;
                }
                if (x < 0 || x > 19 || y < 0 || y > 19) return null;
                if (!seen.add(new Cell(x, y))) return null;
                run.add(new Cell(x, y));
            }
            runs.add(run);
        }
        return runs;
    }

    private void change() {
        past.add(now.copy());
        if (past.size() > 6) past.remove(0);
    }

    int joint(int j) {
        if (j < 0 || j > 2) return BAD;
        if (j == now.joint) return NO;
        change();
        int was = now.joint;
        now.joint = j;
        return was;
    }

    private boolean badLine(int i) {
        return i < 0 || i >= told.lines.size();
    }

    private static boolean badKind(int c) {
        return c < 0 || c > 2;
    }

    private List<Cell> cells(int i) {
        List<Cell> all = new ArrayList<>();
        for (List<Cell> run : told.lines.get(i)) all.addAll(run);
        return all;
    }

    int line(int i, int what) {
        if (badLine(i) || what < 0 || what > 6) return BAD;
        Covered cov = now.covered.get(i);
        if (what == 0) return told.lines.get(i).size();
        if (what == 1) return cells(i).size();
        if (what == 2) return told.lines.get(i).size() - 1;
        if (what == 3) return cov == null ? NONE : cov.colour;
        if (what == 4) {
            int n = 0;
            for (int o : now.owner.values()) if (o == i) n++;
            return n;
        }
        if (cov == null) return 0;
        return what == 5 ? cov.stones.size() : cov.stones.stream().mapToInt(Stone::cuts).sum();
    }

    int cell(int i, int k) {
        if (badLine(i) || k < 0) return BAD;
        List<Cell> all = cells(i);
        return k < all.size() ? 20 * all.get(k).y + all.get(k).x : NONE;
    }

    int whose(int x, int y) {
        if (x < 0 || x > 19 || y < 0 || y > 19) return BAD;
        return now.owner.getOrDefault(new Cell(x, y), NONE);
    }

    private List<Piece> pieces(State s, int i) {
        List<Piece> found = new ArrayList<>();
        List<List<Cell>> runs = told.lines.get(i);
        for (int r = 0; r < runs.size(); r++) {
            List<Cell> run = runs.get(r);
            int from = 0;
            while (from < run.size()) {
                if (s.owner.containsKey(run.get(from))) {
                    from++;
                    continue;
                }
                int to = from;
                while (to < run.size() && !s.owner.containsKey(run.get(to))) to++;
                found.add(new Piece(to - from, to == run.size() && r + 1 < runs.size()));
                from = to;
            }
        }
        return found;
    }

    int piece(int i, int k) {
        if (badLine(i) || k < -1) return BAD;
        if (now.covered.containsKey(i)) return NO;
        List<Piece> all = pieces(now, i);
        if (k == -1) return all.size();
        return k < all.size() ? all.get(k).cells : NONE;
    }

    /** THE WAY, or null: of all stones that can come next the one with the best way behind it. */
    List<Stone> theWay(State s, int i, int colour) {
        int[] bag = s.bags[colour];
        List<Piece> all = pieces(s, i);
        Chain best = best(all, 0, 0, bag.clone(), s.joint, new HashMap<>());
        if (best == null) return null;
        List<Stone> stones = new ArrayList<>();
        for (Chain c = best; c.first != null; c = c.behind) stones.add(c.first);
        return stones;
    }

    private Chain best(List<Piece> all, int p, int done, int[] bag, int joint, Map<List<Integer>, Chain> kept) {
        if (p == all.size()) return END;
        List<Integer> key = List.of(p, done, bag[0], bag[1], bag[2]);
        if (kept.containsKey(key)) return kept.get(key);
        Piece piece = all.get(p);
        int room = piece.cells - done;
        Chain best = null;
        for (int size = 0; size < 3; size++) {
            if (bag[size] == 0) continue;
            for (int length = 1; length <= told.sizes[size] && length <= room; length++) {
                boolean cut = length < told.sizes[size];
                boolean last = length == room;
                boolean aslant = last && piece.bend && (cut || size != 0);
                Stone stone = new Stone(length, size, cut, aslant);
                bag[size]--;
                Chain behind = null;
                if (last) behind = best(all, p + 1, 0, bag, joint, kept);
                else if (length + joint < room) behind = best(all, p, done + length + joint, bag, joint, kept);
                bag[size]++;
                if (behind == null) continue;
                Chain chain = new Chain(behind.cuts + stone.cuts(), behind.stones + 1, stone, behind);
                if (best == null || isAhead(chain, best)) best = chain;
            }
        }
        kept.put(key, best);
        return best;
    }

    private static boolean isAhead(Chain a, Chain b) {
        if (a.cuts != b.cuts) return a.cuts < b.cuts;
        if (a.stones != b.stones) return a.stones < b.stones;
        while (a.first != null && b.first != null) {
            Stone s = a.first, t = b.first;
            if (s.length != t.length) return s.length > t.length;
            if (s.cut != t.cut) return !s.cut;
            if (s.cut && s.size != t.size) return s.size < t.size;
            a = a.behind;
            b = b.behind;
        }
        return false;
    }

    private static int cutsOf(List<Stone> stones) {
        int n = 0;
        for (Stone s : stones) n += s.cuts();
        return n;
    }

    int way(int i, int colour, int k) {
        if (badLine(i) || badKind(colour) || k < -2) return BAD;
        if (now.covered.containsKey(i)) return NO;
        List<Stone> stones = theWay(now, i, colour);
        if (stones == null) return NONE;
        if (k == -1) return cutsOf(stones);
        if (k == -2) return stones.size();
        return k < stones.size() ? stones.get(k).told() : NONE;
    }

    int best(int i) {
        if (badLine(i)) return BAD;
        if (now.covered.containsKey(i)) return NO;
        int best = NONE, fewest = 1000;
        for (int c = 0; c < 3; c++) {
            List<Stone> stones = theWay(now, i, c);
            if (stones != null && cutsOf(stones) < fewest) {
                best = c;
                fewest = cutsOf(stones);
            }
        }
        return best;
    }

    private void put(State s, int i, int colour, List<Stone> stones) {
        for (Cell c : cells(i)) s.owner.putIfAbsent(c, i);
        Covered cov = new Covered();
        cov.colour = colour;
        cov.stones = stones;
        s.covered.put(i, cov);
        for (Stone stone : stones) {
            s.bags[colour][stone.size]--;
            s.thrown += told.sizes[stone.size] - stone.length;
            s.cuts += stone.cuts();
        }
    }

    int cover(int i, int colour) {
        if (badLine(i) || badKind(colour)) return BAD;
        if (now.covered.containsKey(i)) return NO;
        List<Stone> stones = theWay(now, i, colour);
        if (stones == null) return NONE;
        change();
        put(now, i, colour, stones);
        return cutsOf(stones);
    }

    int takeUp(int i) {
        if (badLine(i)) return BAD;
        if (!now.covered.containsKey(i)) return NO;
        change();
        Covered cov = now.covered.remove(i);
        now.owner.values().removeIf(o -> o == i);
        int back = 0;
        for (Stone s : cov.stones) {
            if (!s.cut && !s.aslant && now.bags[cov.colour][s.size] < 6) {
                now.bags[cov.colour][s.size]++;
                back++;
            } else {
                now.thrown += s.length;
            }
        }
        return back;
    }

    int order(int c0, int c1, int c2, int k) {
        if (badKind(c0) || badKind(c1) || badKind(c2) || k < -1 || k > 2) return BAD;
        int[] colours = {c0, c1, c2};
        List<List<Integer>> orders = new ArrayList<>();
        List<Integer> open = new ArrayList<>();
        for (int i = 0; i < told.lines.size(); i++) if (!now.covered.containsKey(i)) open.add(i);
        permute(open, new ArrayList<>(), orders);
        List<Integer> best = null;
        int fewest = 0;
        for (List<Integer> o : orders) {
            State s = now.copy();
            boolean good = true;
            for (int i : o) {
                List<Stone> stones = theWay(s, i, colours[i]);
                if (stones == null) {
                    good = false;
                    break;
                }
                put(s, i, colours[i], stones);
            }
            int cuts = s.cuts - now.cuts;
            if (good && (best == null || cuts < fewest)) {
                best = o;
                fewest = cuts;
            }
        }
        if (best == null) return NONE;
        if (k == -1) return fewest;
        return k < best.size() ? best.get(k) : NONE;
    }

    private static void permute(List<Integer> open, List<Integer> ahead, List<List<Integer>> all) {
        if (ahead.size() == open.size()) {
            all.add(new ArrayList<>(ahead));
            return;
        }
        for (Integer i : open) {
            if (ahead.contains(i)) continue;
            ahead.add(i);
            permute(open, ahead, all);
            ahead.remove(ahead.size() - 1);
        }
    }

    int bag(int colour, int size) {
        return badKind(colour) || badKind(size) ? BAD : now.bags[colour][size];
    }

    int fill(int colour) {
        if (badKind(colour)) return BAD;
        int[] bag = now.bags[colour];
        int more = 18 - bag[0] - bag[1] - bag[2];
        if (more == 0) return NO;
        change();
        now.bags[colour] = new int[] {6, 6, 6};
        return more;
    }

    int undo() {
        if (past.isEmpty()) return NO;
        now = past.remove(past.size() - 1);
        return past.size();
    }

    int drawn(int k) {
        if (k < 0 || k > 419) return BAD;
        StringBuilder all = new StringBuilder();
        for (int y = 0; y < 20; y++) {
            for (int x = 0; x < 20; x++) all.append(sign(new Cell(x, y)));
            all.append('/');
        }
        return all.charAt(k);
    }

    private char sign(Cell c) {
        Integer owner = now.owner.get(c);
        if (owner != null) return "abc".charAt(now.covered.get(owner).colour);
        for (int i = 0; i < told.lines.size(); i++) {
            if (!now.covered.containsKey(i) && cells(i).contains(c)) return '+';
        }
        return '.';
    }

    int count(int what) {
        if (what == 0) return told.lines.size();
        if (what >= 1 && what <= 3) return told.sizes[what - 1];
        if (what == 4) return now.joint;
        if (what == 5) return now.cuts;
        if (what == 6) return now.thrown;
        if (what == 7) return past.size();
        if (what == 8) return text.length();
        if (what == 9) return now.covered.size();
        if (what == 10) {
            Set<Cell> once = new HashSet<>(), more = new HashSet<>();
            for (int i = 0; i < told.lines.size(); i++) for (Cell c : cells(i)) if (!once.add(c)) more.add(c);
            return more.size();
        }
        return BAD;
    }
}

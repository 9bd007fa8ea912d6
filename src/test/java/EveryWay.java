import java.util.ArrayList;
import java.util.List;
import java.util.Random;

/** THE WAY of short lines against the first of all ways, each of them laid out and compared by the document's words. */
public final class EveryWay {
    private record Stone(int length, int size, boolean cut, boolean aslant) {
        int cuts() {
            return (cut ? 1 : 0) + (aslant ? 1 : 0);
        }
    }

    private static final int LINES = 5000;
    private static int wrong = 0;

    private final int[] sizes = new int[3];
    private final int[] bag = new int[3];
    private final int[] pieces;
    private final int joint;
    private final String text;
    private final List<Stone> laid = new ArrayList<>();
    private List<Stone> first = null;

    private EveryWay(Random random) {
        sizes[0] = 1 + random.nextInt(4);
        sizes[1] = sizes[0] + 1 + random.nextInt(3);
        sizes[2] = sizes[1] + 1 + random.nextInt(Math.min(3, 9 - sizes[1]));
        bag[0] = random.nextInt(4);
        bag[1] = random.nextInt(4);
        bag[2] = random.nextInt(3);
        joint = random.nextInt(3);
        pieces = new int[1 + random.nextInt(3)];
        StringBuilder runs = new StringBuilder();
        for (int p = 0; p < pieces.length; p++) {
            pieces[p] = 1 + random.nextInt(pieces.length == 1 ? 12 : pieces.length == 2 ? 7 : 5);
            runs.append(p % 2 == 0 ? 'r' : 'd').append(pieces[p]);
        }
        text = "z" + sizes[0] + "," + sizes[1] + "," + sizes[2] + ";j" + joint
                + ";b1," + bag[0] + "," + bag[1] + "," + bag[2] + ";l0,0," + runs + ";";
    }

    public static void main(String[] args) {
        Random random = new Random(11);
        for (int n = 0; n < LINES && wrong < 10; n++) {
            EveryWay line = new EveryWay(random);
            line.layOn(0, 0);
            line.compare();
        }
        System.out.println("EveryWay: " + wrong + " wrong");
        if (wrong != 0) {
            System.exit(1);
        }
    }

    /** Lays every stone that can come next, and then all that can come behind it. */
    private void layOn(int p, int done) {
        if (p == pieces.length) {
            if (first == null || isAhead(laid, first)) {
                first = new ArrayList<>(laid);
            }
            return;
        }
        for (int size = 0; size < 3; size++) {
            for (int length = 1; length <= sizes[size] && bag[size] > 0; length++) {
                boolean last = done + length == pieces[p];
                if (!last && done + length + joint >= pieces[p]) {
                    continue;
                }
                boolean cut = length < sizes[size];
                boolean bend = last && p < pieces.length - 1;
                laid.add(new Stone(length, size, cut, bend && (cut || size > 0)));
                bag[size]--;
                layOn(last ? p + 1 : p, last ? 0 : done + length + joint);
                bag[size]++;
                laid.remove(laid.size() - 1);
            }
        }
    }

    private static int cutsOf(List<Stone> way) {
        return way.stream().mapToInt(Stone::cuts).sum();
    }

    private static boolean isAhead(List<Stone> a, List<Stone> b) {
        if (cutsOf(a) != cutsOf(b)) return cutsOf(a) < cutsOf(b);
        if (a.size() != b.size()) return a.size() < b.size();
        for (int k = 0; k < a.size(); k++) {
            Stone s = a.get(k), t = b.get(k);
            if (s.length != t.length) return s.length > t.length;
            if (s.cut != t.cut) return !s.cut;
            if (s.cut && s.size != t.size) return s.size < t.size;
        }
        return false;
    }

    private void compare() {
        StoneFloors floors = new StoneFloors();
        for (char letter : text.toCharArray()) {
            floors.write(letter);
        }
        due("lay()", floors.lay(), 1);
        if (first == null) {
            for (int k = -2; k < 2; k++) {
                due("way(0, 1, " + k + ")", floors.way(0, 1, k), StoneFloors.NONE);
            }
            due("cover(0, 1)", floors.cover(0, 1), StoneFloors.NONE);
            return;
        }
        due("way(0, 1, -1)", floors.way(0, 1, -1), cutsOf(first));
        due("way(0, 1, -2)", floors.way(0, 1, -2), first.size());
        int cutOff = 0, spoiled = 0, back = 0;
        for (int k = 0; k < first.size(); k++) {
            Stone s = first.get(k);
            due("way(0, 1, " + k + ")", floors.way(0, 1, k), 20 * s.length + 2 * s.size + (s.cut ? 1 : 0));
            cutOff += sizes[s.size] - s.length;
            back += s.cuts() == 0 ? 1 : 0;
            spoiled += s.cuts() == 0 ? 0 : s.length;
        }
        due("way(0, 1, " + first.size() + ")", floors.way(0, 1, first.size()), StoneFloors.NONE);
        due("cover(0, 1)", floors.cover(0, 1), cutsOf(first));
        due("count(6)", floors.count(6), cutOff);
        due("takeUp(0)", floors.takeUp(0), back);
        due("count(6)", floors.count(6), cutOff + spoiled);
    }

    private void due(String call, int got, int want) {
        if (got != want) {
            wrong++;
            System.out.println(text + " " + call + " answered " + got + ", due is " + want);
        }
    }
}

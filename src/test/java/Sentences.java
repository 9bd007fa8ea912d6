import java.io.IOException;
import java.nio.file.Files;
import java.nio.file.Path;
import java.util.ArrayList;
import java.util.List;
import java.util.function.Supplier;
import java.util.regex.Matcher;
import java.util.regex.Pattern;

/** What tests share that each name the sentence of ../shared/DOC.md that they hold. */
abstract class Sentences {
    static final int BAD = -1, NO = -2, FULL = -3, NONE = -4;
    static final int[] FAR = {Integer.MIN_VALUE, Integer.MIN_VALUE + 1, -1000, 1000, Integer.MAX_VALUE - 1,
            Integer.MAX_VALUE};
    private static final List<String> held = new ArrayList<>();
    private static String sentence = "";
    private static int asked = 1;
    private static int wrong = 0;

    interface Call {
        int on(StoneFloors x);
    }

    /** All that is due from here on is due by these words of the document. */
    static void sentence(String words) {
        dueAtLeastOne();
        sentence = words;
        held.add(words);
        asked = 0;
    }

    private static void dueAtLeastOne() {
        if (asked == 0) {
            fail("no call was asked");
        }
    }

    static void fail(String what) {
        wrong++;
        System.out.println("\"" + sentence + "\": " + what);
    }

    static void due(String call, int got, int want) {
        asked++;
        if (got != want) {
            fail(call + " answered " + got + ", due is " + want);
        }
    }

    static void same(String what, String got, String want) {
        asked++;
        if (!got.equals(want)) {
            fail(what + "\n  is    " + got + "\n  not   " + want);
        }
    }

    static void tell(StoneFloors x, String text) {
        x.wipe();
        for (char letter : text.toCharArray()) {
            x.write(letter);
        }
    }

    static StoneFloors told(String text) {
        StoneFloors x = new StoneFloors();
        tell(x, text);
        return x;
    }

    static StoneFloors laid(String text) {
        StoneFloors x = told(text);
        if (x.lay() < 1) {
            fail("not laid: " + text);
        }
        return x;
    }

    static void dueFault(int want, String... texts) {
        for (String text : texts) {
            due("fault of " + text, told(text).fault(), want);
        }
    }

    static void good(String... texts) {
        dueFault(NONE, texts);
    }

    /** Each of them is a FAULT alone and as a second ITEM. */
    static void faulty(String... items) {
        for (String item : items) {
            dueFault(0, item);
            dueFault(3, "j1;" + item);
        }
    }

    /** The CELLS of LINE 0, told as x and y. */
    static void dueCells(String text, int... xy) {
        StoneFloors x = laid(text);
        due("cells of " + text, x.line(0, 1), xy.length / 2);
        for (int k = 0; 2 * k < xy.length; k++) {
            due("cell(0, " + k + ") of " + text, x.cell(0, k), 20 * xy[2 * k + 1] + xy[2 * k]);
        }
        due("cell behind the last of " + text, x.cell(0, xy.length / 2), NONE);
    }

    static void duePieces(StoneFloors x, int i, int... cells) {
        due("piece(" + i + ", -1)", x.piece(i, -1), cells.length);
        for (int k = 0; k < cells.length; k++) {
            due("piece(" + i + ", " + k + ")", x.piece(i, k), cells[k]);
        }
        due("piece(" + i + ", " + cells.length + ")", x.piece(i, cells.length), NONE);
    }

    static void dueWay(StoneFloors x, int i, int colour, int cuts, int... stones) {
        String call = "way(" + i + ", " + colour + ", ";
        due(call + "-1)", x.way(i, colour, -1), cuts);
        due(call + "-2)", x.way(i, colour, -2), stones.length);
        for (int k = 0; k < stones.length; k++) {
            due(call + k + ")", x.way(i, colour, k), stones[k]);
        }
        due(call + stones.length + ")", x.way(i, colour, stones.length), NONE);
    }

    static void dueNoWay(StoneFloors x, int i, int colour) {
        for (int k = -2; k <= 1; k++) {
            due("way(" + i + ", " + colour + ", " + k + ")", x.way(i, colour, k), NONE);
        }
    }

    static void dueBag(StoneFloors x, int colour, int... many) {
        for (int size = 0; size < 3; size++) {
            due("bag(" + colour + ", " + size + ")", x.bag(colour, size), many[size]);
        }
    }

    static void dueOrder(StoneFloors x, int[] colours, int cuts, int... lines) {
        String call = "order(" + colours[0] + ", " + colours[1] + ", " + colours[2] + ", ";
        due(call + "-1)", x.order(colours[0], colours[1], colours[2], -1), cuts);
        for (int k = 0; k < 3; k++) {
            int want = k < lines.length ? lines[k] : NONE;
            due(call + k + ")", x.order(colours[0], colours[1], colours[2], k), want);
        }
    }

    static int[] in(int c0, int c1, int c2) {
        return new int[] {c0, c1, c2};
    }

    static int whole(int length, int size) {
        return 20 * length + 2 * size;
    }

    static int cut(int length, int size) {
        return 20 * length + 2 * size + 1;
    }

    /** What changes can change, but not how many of them can be undone. */
    static String floor(StoneFloors x) {
        StringBuilder all = new StringBuilder("counts");
        for (int what = 0; what <= 10; what++) {
            all.append(' ').append(what == 7 || what == 8 ? 0 : x.count(what));
        }
        for (int colour = 0; colour < 3; colour++) {
            all.append(" bag");
            for (int size = 0; size < 3; size++) {
                all.append(' ').append(x.bag(colour, size));
            }
        }
        for (int i = 0; i < x.count(0); i++) {
            all.append(" line");
            for (int what = 0; what <= 6; what++) {
                all.append(' ').append(x.line(i, what));
            }
        }
        return all.toString();
    }

    static String cells(StoneFloors x) {
        StringBuilder all = new StringBuilder("cells");
        for (int i = 0; i < x.count(0); i++) {
            int cells = x.line(i, 1);
            for (int k = 0; k < cells; k++) {
                int spot = x.cell(i, k);
                all.append(' ').append(spot).append(' ').append(x.whose(spot % 20, spot / 20));
                all.append((char) x.drawn(21 * (spot / 20) + spot % 20));
            }
        }
        return all.toString();
    }

    /** The floor, THE TEXT's FAULT and length, and the floor behind each UNDONE. */
    static String everything(StoneFloors x) {
        StringBuilder all = new StringBuilder();
        all.append(x.fault()).append(' ').append(x.count(8)).append(' ').append(x.count(7)).append('\n');
        all.append(floor(x)).append('\n').append(cells(x));
        for (int n = 0; n < 7 && x.undo() >= 0; n++) {
            all.append('\n').append(floor(x));
        }
        return all.toString();
    }

    /** A call answers so, and all is as without it. */
    static void dueUnchanged(Supplier<StoneFloors> made, String name, Call call, int want) {
        StoneFloors x = made.get();
        due(name, call.on(x), want);
        same("all behind " + name, everything(x), everything(made.get()));
    }

    /** Each of these, too, and the farthest numbers. */
    static void dueEach(String name, StoneFloors x, int want, int[] numbers, NumberCall call) {
        for (int number : numbers) {
            due(name + " with " + number, call.on(x, number), want);
        }
    }

    interface NumberCall {
        int on(StoneFloors x, int number);
    }

    static int ended() throws IOException {
        dueAtLeastOne();
        compareWithDocument(Path.of("../shared/DOC.md"));
        System.out.println("BoundaryTests: " + held.size() + " sentences, " + wrong + " wrong");
        return wrong;
    }

    /** All words held are the document's, and no word of Terms and Promises is held by none. */
    private static void compareWithDocument(Path file) throws IOException {
        if (!Files.isReadable(file)) {
            System.out.println(file + " can't be read: the sentences are not compared with it");
            return;
        }
        String document = Files.readString(file).replaceAll("\\s+", " ");
        boolean[] spoken = new boolean[document.length()];
        for (String words : held) {
            sentence = words;
            markAll(document, Pattern.quote(words.replaceAll("\\s+", " ")), spoken, true);
        }
        sentence = "the document";
        // Titles, the face (SourceRules holds it) and the words ahead of a group of calls ask for nothing.
        markAll(document, "^.*?(?======== 1 )", spoken, true);
        markAll(document, "======== \\d ", spoken, true);
        markAll(document, "## The public face.*?## Terms", spoken, true);
        markAll(document, "```text", spoken, false);
        markAll(document, "Ahead of the calls .*? the interface says: ---- [a-z ]+\\.", spoken, true);
        markAll(document, "## Promise \\d+: [A-Za-z ]+`(int )?\\w+\\([^)]*\\)`:", spoken, true);
        markAll(document, "## Not promised.*$", spoken, true);
        Matcher words = Pattern.compile("[A-Za-z0-9]+").matcher(document);
        while (words.find()) {
            if (!spoken[words.start()]) {
                int from = Math.max(0, words.start() - 40), to = Math.min(document.length(), words.end() + 40);
                fail("no test holds '" + words.group() + "' in: " + document.substring(from, to));
            }
        }
    }

    private static void markAll(String document, String pattern, boolean[] spoken, boolean needed) {
        Matcher m = Pattern.compile(pattern).matcher(document);
        boolean found = false;
        while (m.find()) {
            found = true;
            for (int at = m.start(); at < m.end(); at++) {
                spoken[at] = true;
            }
        }
        if (needed && !found) {
            fail("these words are not in the document: " + pattern);
        }
    }
}

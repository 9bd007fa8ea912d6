import java.util.Random;

/** THE WAY over one PIECE of each length, with and without a BEND, for all SIZES and JOINTS. */
public final class EveryPiece {
    private static int wrong = 0;

    public static void main(String[] args) {
        int bags = args.length > 0 ? Integer.parseInt(args[0]) : 6;
        Random random = new Random(7);
        for (int a = 1; a <= 7; a++) {
            for (int b = a + 1; b <= 8; b++) {
                for (int c = b + 1; c <= 9; c++) {
                    for (int joint = 0; joint <= 2; joint++) {
                        tryAll("z" + a + "," + b + "," + c + ";j" + joint + ";", random, bags);
                    }
                }
            }
        }
        for (int cells = 9; cells <= 12; cells++) {
            tryAllBags(cells);
        }
        for (int n = 0; n < 10 * bags; n++) {
            tryCombs(random);
        }
        System.out.println("EveryPiece: " + wrong + " wrong");
        if (wrong != 0) {
            System.exit(1);
        }
    }

    private static void tryAll(String sizes, Random random, int bags) {
        StoneFloors floors = new StoneFloors();
        PlainModel model = new PlainModel();
        for (int n = 0; n < bags; n++) {
            StringBuilder text = new StringBuilder(sizes);
            for (int colour = 0; colour < 3; colour++) {
                int most = 2 + random.nextInt(6);
                text.append("b").append(colour);
                for (int size = 0; size < 3; size++) {
                    text.append(",").append(random.nextInt(3) == 0 ? 0 : random.nextInt(most));
                }
                text.append(";");
            }
            int first = 1 + random.nextInt(12), second = 1 + random.nextInt(12);
            text.append("l0,0,r").append(first).append("d").append(second).append(";");
            text.append("l19,0,d").append(1 + random.nextInt(12)).append(";");
            tell(floors, model, text.toString());
            for (int i = 0; i < 2; i++) {
                for (int colour = 0; colour < 3; colour++) {
                    compare(floors, model, i, colour, text.toString());
                }
            }
        }
    }

    /** Of these SIZES a PIECE can be laid in the most ways, each of them the only one for some BAG. */
    private static void tryAllBags(int cells) {
        StoneFloors floors = new StoneFloors();
        PlainModel model = new PlainModel();
        for (int bag = 0; bag < 343; bag++) {
            String bags = "b0," + bag / 49 + "," + bag / 7 % 7 + "," + bag % 7 + ";";
            String text = "z1,2,3;" + bags + "l0,0,r" + cells + "d1;l19,0,d" + cells + ";";
            tell(floors, model, text);
            compare(floors, model, 0, 0, text);
            compare(floors, model, 1, 0, text);
        }
    }

    /** Two LINES that go up and down cut a third one, that goes to and fro, into 4 to 16 PIECES. */
    private static void tryCombs(Random random) {
        StoneFloors floors = new StoneFloors();
        PlainModel model = new PlainModel();
        int a = 1 + random.nextInt(3), b = a + 1 + random.nextInt(3), c = b + 1 + random.nextInt(3);
        String text = "z" + a + "," + b + "," + c + ";j" + random.nextInt(3) + ";b2," + (3 + random.nextInt(4)) + ","
                + (3 + random.nextInt(4)) + "," + (3 + random.nextInt(4)) + ";";
        text += "l0," + (1 + random.nextInt(4)) + ",r" + (9 + random.nextInt(4)) + "d2l" + (5 + random.nextInt(4)) + "d"
                + (1 + random.nextInt(2)) + "r" + (1 + random.nextInt(9)) + ";";
        text += "l" + random.nextInt(3) + ",0,d11r2u10r2d" + (1 + random.nextInt(11)) + ";";
        text += "l" + (5 + random.nextInt(3)) + ",0,d11r2u10r2d" + (1 + random.nextInt(11)) + ";";
        tell(floors, model, text, 3);
        for (int i = 1; i < 3; i++) {
            if (floors.cover(i, i - 1) != model.cover(i, i - 1)) {
                wrong++;
                System.out.println(text + " is covered otherwise");
            }
            compare(floors, model, 0, 2, text);
        }
    }

    private static void tell(StoneFloors floors, PlainModel model, String text) {
        tell(floors, model, text, 2);
    }

    private static void tell(StoneFloors floors, PlainModel model, String text, int lines) {
        floors.wipe();
        model.wipe();
        for (char letter : text.toCharArray()) {
            floors.write(letter);
            model.write(letter);
        }
        if (floors.lay() != lines || model.lay() != lines) {
            wrong++;
            System.out.println(text + " is not laid");
        }
    }

    private static void compare(StoneFloors floors, PlainModel model, int i, int colour, String text) {
        java.util.List<PlainModel.Stone> stones = model.theWay(model.now, i, colour);
        int many = stones == null ? PlainModel.NONE : stones.size();
        int got = floors.way(i, colour, -2);
        boolean like = got == many;
        for (int k = 0; like && k < many; k++) {
            like = floors.way(i, colour, k) == stones.get(k).told();
        }
        like = like && floors.way(i, colour, 18) == StoneFloors.NONE;
        if (!like) {
            wrong++;
            System.out.println(text + " way of " + i + " in " + colour + " is not " + stones);
        }
    }
}

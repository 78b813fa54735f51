import java.util.Random;

/** Promise 15: steps, also against a second way to count them. */
public final class StepsTest {
    private static final String STEPS = "Promise 15";
    private static final int FAR = 1000;

    public static void main(String[] args) {
        Check check = new Check();
        fewestSteps(check);
        toItself(check);
        unitsAreNotLookedAt(check);
        changesNothing(check);
        noSuchTile(check);
        oneIsAWall(check);
        noneLeadThere(check);
        manyFields(check);
        check.end();
    }

    private static void fewestSteps(Check check) {
        check.sentence(STEPS, "How many steps at least");
        LockstepField field = new LockstepField();
        check.due("steps(0, 63)", field.steps(0, 63), 14);
        check.due("steps(63, 0)", field.steps(63, 0), 14);
        check.due("steps(7, 8)", field.steps(7, 8), 8);
        check.due("steps(0, 1)", field.steps(0, 1), 1);
        check.due("steps(8, 0)", field.steps(8, 0), 1);
        field.wall(9, true);
        check.due("round a wall", field.steps(8, 10), 4);
        for (int y = 0; y < 7; y++) {
            field.wall(8 * y + 3, true);
        }
        check.due("through the gap", field.steps(2, 4), 16);
    }

    private static void toItself(Check check) {
        check.sentence(STEPS, "or itself (0)");
        LockstepField field = new LockstepField();
        for (int tile = 0; tile < 64; tile++) {
            check.due("steps(" + tile + ", " + tile + ")", field.steps(tile, tile), 0);
        }
        field.wall(1, true);
        field.wall(8, true);
        check.due("closed in", field.steps(0, 0), 0);
    }

    private static void unitsAreNotLookedAt(Check check) {
        check.sentence(STEPS, "(units not looked at)");
        LockstepField field = Scene.set(0, 1, 8);
        check.due("through units", field.steps(0, 2), 2);
        check.due("to a unit", field.steps(63, 1), 13);
        check.due("to itself where a unit stands", field.steps(1, 1), 0);
        field.begin();
        field.command(0, 0, Scene.GO, 2);
        field.run(3);
        check.due("in play", field.steps(0, 2), 2);
        field.run(1);
        check.due("where the units stand is no matter", field.steps(0, 2), 2);
    }

    private static void changesNothing(Check check) {
        check.sentence(STEPS, "How many steps at least (units not looked at) lead from a tile to another one");
        Twins twins = new Twins(check, Scene::midway);
        twins.unchanged("steps(62, 5)", 8, field -> field.steps(62, 5));
        twins.unchanged("from a wall", Scene.BAD, field -> field.steps(9, 5));
        twins.unchanged("from no tile", Scene.BAD, field -> field.steps(64, 5));
    }

    private static void noSuchTile(Check check) {
        check.sentence(STEPS, "BAD when there is no such tile");
        LockstepField field = new LockstepField();
        for (int tile : new int[] {-1, 64, 65, -64, Scene.MIN, Scene.MAX}) {
            check.due("steps(" + tile + ", 0)", field.steps(tile, 0), Scene.BAD);
            check.due("steps(0, " + tile + ")", field.steps(0, tile), Scene.BAD);
            check.due("steps(" + tile + ", " + tile + ")", field.steps(tile, tile), Scene.BAD);
        }
    }

    private static void oneIsAWall(Check check) {
        check.sentence(STEPS, "one is a wall");
        LockstepField field = new LockstepField();
        field.wall(9, true);
        field.wall(10, true);
        check.due("from a wall", field.steps(9, 0), Scene.BAD);
        check.due("to a wall", field.steps(0, 9), Scene.BAD);
        check.due("from a wall to one beside it", field.steps(9, 8), Scene.BAD);
        check.due("from a wall to another", field.steps(9, 10), Scene.BAD);
        check.due("from a wall to itself", field.steps(9, 9), Scene.BAD);
    }

    private static void noneLeadThere(Check check) {
        check.sentence(STEPS, "or none lead there");
        LockstepField field = new LockstepField();
        for (int y = 0; y < 8; y++) {
            field.wall(8 * y + 3, true);
        }
        check.due("over a wall", field.steps(2, 4), Scene.BAD);
        check.due("back", field.steps(4, 2), Scene.BAD);
        check.due("on the other side", field.steps(4, 63), 10);
        field.wall(59, false);
        check.due("through a gap", field.steps(2, 4), 16);
    }

    private static void manyFields(Check check) {
        check.sentence(STEPS, "How many steps at least");
        Random random = new Random(15);
        for (int round = 0; round < 60; round++) {
            LockstepField field = new LockstepField();
            boolean[] wall = new boolean[64];
            int thick = random.nextInt(40);
            for (int i = 0; i < thick; i++) {
                int tile = random.nextInt(64);
                wall[tile] = true;
                field.wall(tile, true);
            }
            int[][] least = leastSteps(wall);
            // An object answers for 512 calls at most.
            for (int i = 0; i < 400; i++) {
                int from = random.nextInt(64);
                int to = random.nextInt(64);
                int due = least[from][to] < FAR ? least[from][to] : Scene.BAD;
                check.due("round " + round + ", steps(" + from + ", " + to + ")", field.steps(from, to), due);
            }
        }
    }

    private static int[][] leastSteps(boolean[] wall) {
        int[][] least = new int[64][64];
        for (int a = 0; a < 64; a++) {
            for (int b = 0; b < 64; b++) {
                int apart = Math.abs(a % 8 - b % 8) + Math.abs(a / 8 - b / 8);
                least[a][b] = wall[a] || wall[b] || apart > 1 ? FAR : apart;
            }
        }
        for (int by = 0; by < 64; by++) {
            for (int a = 0; a < 64; a++) {
                for (int b = 0; b < 64; b++) {
                    least[a][b] = Math.min(least[a][b], least[a][by] + least[by][b]);
                }
            }
        }
        return least;
    }
}

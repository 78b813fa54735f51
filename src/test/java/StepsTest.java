import java.util.Random;

/** Promise 15: steps, also against a second way to count them. */
public final class StepsTest {
    private static final int BAD = LockstepField.BAD;
    private static final int FAR = 1000;

    public static void main(String[] args) {
        Check check = new Check();
        wrongTiles(check);
        walls(check);
        unitsAreNotLookedAt(check);
        manyFields(check);
        check.end();
    }

    private static void wrongTiles(Check check) {
        LockstepField field = new LockstepField();
        for (int tile : new int[] {-1, 64, Integer.MIN_VALUE, Integer.MAX_VALUE}) {
            check.due("steps(" + tile + ", 0)", field.steps(tile, 0), BAD);
            check.due("steps(0, " + tile + ")", field.steps(0, tile), BAD);
            check.due("steps(" + tile + ", " + tile + ")", field.steps(tile, tile), BAD);
        }
        check.due("steps(0, 63)", field.steps(0, 63), 14);
        check.due("steps(63, 0)", field.steps(63, 0), 14);
        check.due("steps(7, 8)", field.steps(7, 8), 8);
    }

    private static void walls(Check check) {
        LockstepField field = new LockstepField();
        field.wall(9, true);
        check.due("from a wall", field.steps(9, 0), BAD);
        check.due("to a wall", field.steps(0, 9), BAD);
        check.due("from a wall to itself", field.steps(9, 9), BAD);
        check.due("round it", field.steps(8, 10), 4);
        check.due("to itself", field.steps(10, 10), 0);
        for (int y = 0; y < 8; y++) {
            field.wall(8 * y + 3, true);
        }
        check.due("over a wall", field.steps(2, 4), BAD);
        check.due("on the other side", field.steps(4, 63), 10);
        field.wall(59, false);
        check.due("through the gap", field.steps(2, 4), 16);
    }

    private static void unitsAreNotLookedAt(Check check) {
        LockstepField field = new LockstepField();
        field.unit(0, 0);
        field.unit(1, 1);
        field.unit(1, 8);
        check.due("through units", field.steps(0, 2), 2);
        check.due("to a unit", field.steps(63, 1), 13);
        field.begin();
        field.command(0, 0, 1, 2);
        field.run(1);
        check.due("after begin", field.steps(0, 2), 2);
        check.duePath("no path is changed", field, 0, 1, 2);
    }

    private static void manyFields(Check check) {
        Random random = new Random(15);
        for (int round = 0; round < 60; round++) {
            LockstepField field = new LockstepField();
            boolean[] wall = new boolean[64];
            int thick = random.nextInt(40);
            for (int i = 0; i < thick; i++) {
                int tile = random.nextInt(64);
                wall[tile] = true;
                field.wall(tile, true);
            }
            int[][] least = leastSteps(wall);
            // An object answers for 512 calls at most.
            for (int i = 0; i < 400; i++) {
                int from = random.nextInt(64);
                int to = random.nextInt(64);
                int due = least[from][to] < FAR ? least[from][to] : BAD;
                check.due("round " + round + ", steps(" + from + ", " + to + ")", field.steps(from, to), due);
            }
        }
    }

    private static int[][] leastSteps(boolean[] wall) {
        int[][] least = new int[64][64];
        for (int a = 0; a < 64; a++) {
            for (int b = 0; b < 64; b++) {
                int apart = Math.abs(a % 8 - b % 8) + Math.abs(a / 8 - b / 8);
                least[a][b] = wall[a] || wall[b] || apart > 1 ? FAR : apart;
            }
        }
        for (int by = 0; by < 64; by++) {
            for (int a = 0; a < 64; a++) {
                for (int b = 0; b < 64; b++) {
                    least[a][b] = Math.min(least[a][b], least[a][by] + least[by][b]);
                }
            }
        }
        return least;
    }
}

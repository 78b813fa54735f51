/** Promises 1 to 4: a new object, wall, unit, begin. */
public final class SetupTest {
    private static final int MIN = Integer.MIN_VALUE;
    private static final int MAX = Integer.MAX_VALUE;

    public static void main(String[] args) {
        Check check = new Check();
        newObject(check);
        wall(check);
        wallRefused(check);
        unit(check);
        unitRefused(check);
        begin(check);
        check.end();
    }

    private static void newObject(Check check) {
        LockstepField field = new LockstepField();
        check.due("new: entries()", field.entries(), 0);
        check.due("new: winner()", field.winner(), 3);
        check.due("new: replay()", field.replay(), -1);
        check.due("new: number(0)", field.number(0), 0);
        check.due("new: run(1)", field.run(1), LockstepField.EARLY);
        check.due("new: tile(0)", field.tile(0), LockstepField.BAD);
        for (int tile = 0; tile < 64; tile++) {
            check.due("new: steps(0, " + tile + ")", field.steps(0, tile), tile % 8 + tile / 8);
        }
        check.due("new: begin()", field.begin(), 0);
    }

    private static void wall(Check check) {
        LockstepField field = new LockstepField();
        check.due("free tile becomes free", field.wall(5, false), true);
        check.due("wall(5, true)", field.wall(5, true), true);
        check.due("wall becomes a wall", field.wall(5, true), true);
        check.due("5 is a wall", field.steps(5, 5), LockstepField.BAD);
        check.due("4 is none", field.steps(4, 4), 0);
        check.due("6 is none", field.steps(6, 6), 0);
        check.due("wall(5, false)", field.wall(5, false), true);
        check.due("5 is free", field.steps(5, 5), 0);
        check.due("wall(0, true)", field.wall(0, true), true);
        check.due("wall(63, true)", field.wall(63, true), true);
        check.due("0 is a wall", field.steps(0, 0), LockstepField.BAD);
        check.due("63 is a wall", field.steps(63, 63), LockstepField.BAD);
        check.due("wall(31, true)", field.wall(31, true), true);
        check.due("wall(31, false) leaves the others", field.wall(31, false), true);
        check.due("63 is a wall still", field.steps(63, 63), LockstepField.BAD);
    }

    private static void wallRefused(Check check) {
        LockstepField field = new LockstepField();
        for (int tile : new int[] {-1, 64, 65, -64, MIN, MAX}) {
            check.due("wall(" + tile + ", true)", field.wall(tile, true), false);
            check.due("wall(" + tile + ", false)", field.wall(tile, false), false);
        }
        check.due("no tile has become a wall", field.steps(0, 63), 14);
        field.unit(0, 20);
        check.due("wall under a unit", field.wall(20, true), false);
        check.due("free under a unit", field.wall(20, false), false);
        check.due("20 is free", field.steps(20, 20), 0);
        field.wall(21, true);
        field.begin();
        check.due("wall after begin", field.wall(0, true), false);
        check.due("0 is free", field.steps(0, 0), 0);
        check.due("free after begin", field.wall(21, false), false);
        check.due("21 is a wall", field.steps(21, 21), LockstepField.BAD);
    }

    private static void unit(Check check) {
        LockstepField field = new LockstepField();
        for (int u = 0; u < 8; u++) {
            check.due("unit " + u, field.unit(u % 2, 9 * u), u);
            check.dueUnit("as it came", field, u, 9 * u, 20, 0);
            check.duePath("as it came", field, u);
        }
        check.due("the ninth", field.unit(0, 1), LockstepField.FULL);
        check.due("the ninth is not there", field.tile(8), LockstepField.BAD);
        check.due("side before room", field.unit(2, 1), LockstepField.BAD);
        check.due("tile before room", field.unit(0, 64), LockstepField.BAD);
        check.due("taken before room", field.unit(0, 9), LockstepField.BAD);
        field.wall(2, true);
        check.due("wall before room", field.unit(0, 2), LockstepField.BAD);
        check.due("all have come", field.begin(), 8);
        check.due("begun before room", field.unit(0, 1), LockstepField.EARLY);
    }

    private static void unitRefused(Check check) {
        LockstepField field = new LockstepField();
        for (int side : new int[] {-1, 2, MIN, MAX}) {
            check.due("side " + side, field.unit(side, 0), LockstepField.BAD);
        }
        for (int tile : new int[] {-1, 64, MIN, MAX}) {
            check.due("tile " + tile, field.unit(0, tile), LockstepField.BAD);
        }
        field.wall(7, true);
        check.due("on a wall", field.unit(0, 7), LockstepField.BAD);
        field.wall(7, false);
        check.due("where a wall was", field.unit(1, 7), 0);
        check.due("on a taken tile", field.unit(0, 7), LockstepField.BAD);
        check.due("only one has come", field.begin(), 1);
        check.due("after begin", field.unit(0, 0), LockstepField.EARLY);
        check.due("wrong side after begin", field.unit(2, 0), LockstepField.EARLY);
        check.due("no tile after begin", field.unit(0, 64), LockstepField.EARLY);
        check.due("none has come", field.tile(1), LockstepField.BAD);
    }

    private static void begin(Check check) {
        LockstepField field = new LockstepField();
        field.unit(0, 3);
        field.unit(1, 4);
        field.unit(1, 5);
        check.due("begin()", field.begin(), 3);
        check.due("begin() again", field.begin(), LockstepField.EARLY);
        check.due("no tick is played by it", field.number(0), 0);
        check.due("the first tick", field.run(1), 1);
        check.due("begin() after a tick", field.begin(), LockstepField.EARLY);
    }
}

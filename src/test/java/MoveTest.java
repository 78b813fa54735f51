/** Promises 10, 12 and 13: tile, order, path; points 1 and 2 of the tick. */
public final class MoveTest {
    private static final int MIN = Integer.MIN_VALUE;
    private static final int MAX = Integer.MAX_VALUE;
    private static final int BAD = LockstepField.BAD;

    public static void main(String[] args) {
        Check check = new Check();
        noSuch(check);
        pathsGoFirstMetFirst(check);
        pathRoundWalls(check);
        arriving(check);
        goesThatEndAtOnce(check);
        laterEntryCounts(check);
        stopping(check);
        newOrderBeginsAnew(check);
        unitsInTurn(check);
        wayRoundTaken(check);
        takenGoal(check);
        noWayRound(check);
        patienceBeginsAnew(check);
        followingOneThatMoves(check);
        besideTheOneToFight(check);
        orderEndsButPathStays(check);
        check.end();
    }

    private static int go(int tile) {
        return 1 + 4 * tile;
    }

    private static int fight(int unit) {
        return 2 + 4 * unit;
    }

    /** A field on which the play has begun: walls, then a unit of side 0 on each tile. */
    private static LockstepField begun(int[] walls, int... tiles) {
        LockstepField field = new LockstepField();
        for (int wall : walls) {
            field.wall(wall, true);
        }
        for (int tile : tiles) {
            field.unit(0, tile);
        }
        field.begin();
        return field;
    }

    private static int[] walls(int... tiles) {
        return tiles;
    }

    private static void noSuch(Check check) {
        LockstepField field = begun(walls(), 0, 9);
        for (int unit : new int[] {-1, 2, 8, MIN, MAX}) {
            check.due("tile(" + unit + ")", field.tile(unit), BAD);
            check.due("order(" + unit + ")", field.order(unit), BAD);
            check.due("path(" + unit + ", 0)", field.path(unit, 0), BAD);
        }
        field.command(0, 0, 1, 7);
        field.run(1);
        for (int i : new int[] {-1, 6, 63, 64, MIN, MAX}) {
            check.due("path(0, " + i + ")", field.path(0, i), BAD);
        }
        check.duePath("path of unit 0", field, 0, 2, 3, 4, 5, 6, 7);
    }

    private static void pathsGoFirstMetFirst(Check check) {
        int[][] paths = {{9, 10, 11, 19, 27}, {27, 19, 11, 10, 9}, {11, 19, 27, 26, 25}, {25, 17, 9, 10, 11}};
        int[] goals = {27, 9, 25, 11};
        for (int i = 0; i < goals.length; i++) {
            LockstepField field = begun(walls(), paths[i][0]);
            field.command(0, 0, 1, goals[i]);
            field.run(1);
            check.due("first step to " + goals[i], field.tile(0), paths[i][1]);
            check.duePath("to " + goals[i], field, 0, paths[i][2], paths[i][3], paths[i][4]);
        }
    }

    private static void pathRoundWalls(Check check) {
        LockstepField field = begun(walls(1, 9, 17), 0);
        field.command(0, 0, 1, 2);
        field.run(1);
        check.due("tile(0)", field.tile(0), 8);
        check.duePath("round the wall", field, 0, 16, 24, 25, 26, 18, 10, 2);
    }

    private static void arriving(Check check) {
        LockstepField field = begun(walls(), 0);
        field.command(0, 0, 1, 2);
        field.run(1);
        check.dueUnit("on the way", field, 0, 1, 20, go(2));
        check.duePath("on the way", field, 0, 2);
        field.run(1);
        check.dueUnit("there", field, 0, 2, 20, 0);
        check.duePath("there", field, 0);
    }

    private static void goesThatEndAtOnce(Check check) {
        LockstepField field = begun(walls(1, 8, 30), 0, 63);
        field.command(0, 1, 1, 63);
        field.command(0, 0, 1, 20);
        field.run(1);
        check.dueUnit("go to its own tile", field, 1, 63, 20, 0);
        check.dueUnit("no way", field, 0, 0, 20, 0);
        field.command(1, 1, 1, 30);
        field.command(1, 0, 2, 1);
        field.run(1);
        check.dueUnit("go to a wall", field, 1, 63, 20, 0);
        check.dueUnit("no way to the one to fight", field, 0, 0, 20, 0);
        check.duePath("no way", field, 0);
    }

    private static void laterEntryCounts(Check check) {
        LockstepField field = begun(walls(), 27);
        field.command(1, 0, 1, 0);
        field.command(0, 0, 1, 24);
        field.command(0, 0, 1, 31);
        field.run(1);
        check.dueUnit("the later entry of tick 0", field, 0, 28, 20, go(31));
        field.run(1);
        check.dueUnit("tick 1", field, 0, 20, 20, go(0));
        LockstepField stopped = begun(walls(), 27);
        stopped.command(0, 0, 1, 24);
        stopped.command(0, 0, 0, 0);
        stopped.run(1);
        check.dueUnit("go, then stop", stopped, 0, 27, 20, 0);
    }

    private static void stopping(Check check) {
        LockstepField field = begun(walls(), 0);
        field.command(0, 0, 1, 7);
        field.command(2, 0, 0, 55);
        field.run(2);
        check.dueUnit("going", field, 0, 2, 20, go(7));
        field.run(1);
        check.dueUnit("stopped", field, 0, 2, 20, 0);
        check.duePath("stopped", field, 0);
        field.run(1);
        check.due("stays", field.tile(0), 2);
    }

    /** The same order once more: the way round that patience gave is forgotten. */
    private static void newOrderBeginsAnew(Check check) {
        LockstepField field = begun(walls(), 0, 1);
        field.command(0, 0, 1, 2);
        field.run(3);
        check.duePath("the way round", field, 0, 8, 9, 10, 2);
        field.command(3, 0, 1, 2);
        field.run(1);
        check.due("waits again", field.tile(0), 0);
        check.duePath("the straight way", field, 0, 1, 2);
    }

    private static void unitsInTurn(Check check) {
        LockstepField ahead = begun(walls(), 1, 0);
        ahead.command(0, 0, 1, 7);
        ahead.command(0, 1, 1, 6);
        ahead.run(1);
        check.due("the first makes room", ahead.tile(0), 2);
        check.due("for the second", ahead.tile(1), 1);
        LockstepField behind = begun(walls(), 0, 1);
        behind.command(0, 0, 1, 6);
        behind.command(0, 1, 1, 7);
        behind.run(1);
        check.due("the first has no room yet", behind.tile(0), 0);
        check.due("the second goes", behind.tile(1), 2);
        behind.run(1);
        check.due("then the first goes", behind.tile(0), 1);
    }

    private static void wayRoundTaken(Check check) {
        LockstepField field = begun(walls(), 0, 1);
        field.command(0, 0, 1, 2);
        field.run(1);
        check.duePath("tick 0", field, 0, 1, 2);
        field.run(1);
        check.duePath("tick 1", field, 0, 1, 2);
        field.run(1);
        check.due("tick 2: not moved yet", field.tile(0), 0);
        check.duePath("tick 2", field, 0, 8, 9, 10, 2);
        field.command(3, 1, 1, 7);
        field.run(1);
        check.due("tick 3", field.tile(0), 8);
        check.duePath("kept though the short way is free", field, 0, 9, 10, 2);
        field.run(3);
        check.dueUnit("there", field, 0, 2, 20, 0);
    }

    private static void takenGoal(Check check) {
        LockstepField field = begun(walls(), 0, 1, 2);
        field.command(0, 0, 1, 2);
        field.run(3);
        check.duePath("the goal is not avoided", field, 0, 8, 9, 10, 2);
        field.run(10);
        check.dueUnit("before the goal", field, 0, 10, 20, go(2));
        check.duePath("before the goal", field, 0, 2);
        field.command(13, 2, 1, 3);
        field.run(2);
        check.dueUnit("there when it is free", field, 0, 2, 20, 0);
    }

    private static void noWayRound(Check check) {
        LockstepField field = begun(walls(8), 0, 1);
        field.command(0, 0, 1, 2);
        field.run(3);
        check.dueUnit("no other way", field, 0, 0, 20, go(2));
        check.duePath("the path stays", field, 0, 1, 2);
        field.command(3, 1, 1, 9);
        field.run(2);
        check.due("goes on when there is room", field.tile(0), 1);
    }

    /** Two ticks of waiting, a step, and the third tick of waiting brings no way round. */
    private static void patienceBeginsAnew(Check check) {
        LockstepField field = begun(walls(), 0, 1, 3);
        field.command(0, 0, 1, 4);
        field.command(1, 1, 1, 2);
        field.run(3);
        check.due("a step after two waits", field.tile(0), 1);
        field.run(2);
        check.duePath("two waits more", field, 0, 2, 3, 4);
        field.run(1);
        check.duePath("the third", field, 0, 9, 10, 11, 12, 4);
    }

    private static void followingOneThatMoves(Check check) {
        LockstepField field = begun(walls(), 0, 4);
        field.command(0, 0, 2, 1);
        field.command(0, 1, 1, 36);
        field.run(1);
        check.dueUnit("tick 0", field, 0, 1, 20, fight(1));
        check.duePath("to where it stood", field, 0, 2, 3, 4);
        field.run(1);
        check.due("tick 1", field.tile(0), 2);
        check.duePath("to where it stood then", field, 0, 3, 4, 12);
        check.due("the other goes", field.tile(1), 20);
    }

    private static void besideTheOneToFight(Check check) {
        LockstepField field = begun(walls(), 0, 3);
        field.command(0, 0, 2, 1);
        field.run(2);
        check.dueUnit("beside it", field, 0, 2, 20, fight(1));
        check.duePath("the last step is not gone", field, 0, 3);
        field.run(1);
        check.dueUnit("stays beside it", field, 0, 2, 20, fight(1));
        check.duePath("empty then", field, 0);
    }

    /** The document says only that the order is none then: the path is not named, and stays. */
    private static void orderEndsButPathStays(Check check) {
        LockstepField field = begun(walls(), 0, 63, 62);
        field.command(0, 0, 2, 1);
        field.command(0, 2, 2, 1);
        field.run(7);
        check.due("the one to fight is dead", field.tile(1), BAD);
        check.dueUnit("not known yet", field, 0, 7, 20, fight(1));
        field.run(1);
        check.dueUnit("no order more", field, 0, 7, 20, 0);
        check.duePath("what was left of it", field, 0, 15, 23, 31, 39, 47, 55, 63);
        field.command(8, 0, 0, 0);
        field.run(1);
        check.duePath("an entry empties it", field, 0);
    }
}

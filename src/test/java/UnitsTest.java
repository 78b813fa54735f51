/** Promises 10 to 13 and 16: tile, points, order, path, winner. */
public final class UnitsTest {
    private static final String TILE = "Promise 10";
    private static final String POINTS = "Promise 11";
    private static final String ORDER = "Promise 12";
    private static final String PATH = "Promise 13";
    private static final String WINNER = "Promise 16";
    private static final int[] NO_UNITS = {-1, 2, 7, 8, Scene.MIN, Scene.MAX};

    public static void main(String[] args) {
        Check check = new Check();
        tiles(check);
        points(check);
        orders(check);
        paths(check);
        winners(check);
        check.end();
    }

    private static void tiles(Check check) {
        tileOfAUnit(check);
        tileOfADeadUnit(check);
        tileOfNoUnit(check);
    }

    private static void points(Check check) {
        pointsOfAUnit(check);
        pointsOfNoUnit(check);
    }

    private static void orders(Check check) {
        orderWithTileOrUnit(check);
        noOrder(check);
        orderOfADeadUnit(check);
        orderOfNoUnit(check);
    }

    private static void paths(Check check) {
        pathOfAUnit(check);
        noTileOfThePath(check);
        emptyPaths(check);
        pathOfNoUnit(check);
    }

    private static void winners(Check check) {
        winnerAtAnyTime(check);
        oneSideLeft(check);
        bothSidesLeft(check);
        noSideLeft(check);
    }

    /** Unit 0 kills unit 1 in tick 6: seven ticks are played. */
    private static LockstepField oneDead() {
        LockstepField field = Scene.begun(0, 1);
        field.command(0, 0, Scene.FIGHT, 1);
        field.command(0, 1, Scene.FIGHT, 0);
        field.command(1, 1, Scene.STOP, 0);
        field.run(7);
        return field;
    }

    private static void tileOfAUnit(Check check) {
        check.sentence(TILE, "The tile of a unit");
        LockstepField field = Scene.set(0, 63);
        check.due("before begin, tile(0)", field.tile(0), 0);
        check.due("before begin, tile(1)", field.tile(1), 63);
        field.begin();
        field.command(0, 0, Scene.GO, 63);
        field.command(0, 1, Scene.GO, 0);
        field.run(1);
        check.due("after a tick, tile(0)", field.tile(0), 1);
        check.due("after a tick, tile(1)", field.tile(1), 55);
    }

    private static void tileOfADeadUnit(Check check) {
        check.sentence(TILE, "BAD when it is dead");
        LockstepField field = oneDead();
        check.due("dead", field.tile(1), Scene.BAD);
        check.due("not dead", field.tile(0), 0);
        field.run(20);
        check.due("dead for good", field.tile(1), Scene.BAD);
    }

    private static void tileOfNoUnit(Check check) {
        check.sentence(TILE, "or there is none such");
        LockstepField field = Scene.begun(0, 63);
        for (int unit : NO_UNITS) {
            check.due("tile(" + unit + ")", field.tile(unit), Scene.BAD);
        }
        LockstepField full = Scene.begun(0, 1, 2, 3, 4, 5, 6, 7);
        check.due("tile(7) of eight", full.tile(7), 7);
        check.due("tile(8) of eight", full.tile(8), Scene.BAD);
    }

    private static void pointsOfAUnit(Check check) {
        check.sentence(POINTS, "The hit points of a unit");
        check.due("before begin", Scene.set(5).points(0), 20);
        LockstepField field = oneDead();
        check.due("dead", field.points(1), 0);
        check.due("struck once", field.points(0), 17);
    }

    private static void pointsOfNoUnit(Check check) {
        check.sentence(POINTS, "BAD when there is none such");
        LockstepField field = Scene.begun(0, 63);
        for (int unit : NO_UNITS) {
            check.due("points(" + unit + ")", field.points(unit), Scene.BAD);
        }
        LockstepField full = Scene.begun(0, 1, 2, 3, 4, 5, 6, 7);
        check.due("points(7) of eight", full.points(7), 20);
        check.due("points(8) of eight", full.points(8), Scene.BAD);
    }

    private static void orderWithTileOrUnit(Check check) {
        check.sentence(ORDER, "The order of a unit, plus 4 times the tile or unit of it");
        LockstepField field = Scene.begun(8, 1, 2, 3, 4, 5, 6, 55);
        field.command(0, 0, Scene.GO, 63);
        field.command(0, 1, Scene.GO, 0);
        field.command(0, 2, Scene.FIGHT, 7);
        field.command(0, 7, Scene.FIGHT, 0);
        check.due("before the tick", field.order(0), 0);
        field.run(1);
        check.due("GO to 63", field.order(0), 253);
        check.due("FIGHT 7", field.order(2), 30);
        check.due("FIGHT 0", field.order(7), 2);
        check.due("there", field.order(1), 0);
        field.command(1, 0, Scene.GO, 0);
        field.run(1);
        check.due("GO to 0", field.order(0), 1);
    }

    private static void noOrder(Check check) {
        check.sentence(ORDER, "(0 for none");
        LockstepField field = Scene.set(0, 63);
        check.due("before begin", field.order(0), 0);
        field.begin();
        field.command(0, 0, Scene.GO, 63);
        field.command(1, 0, Scene.STOP, 63);
        field.run(2);
        check.due("stopped", field.order(0), 0);
        field.command(2, 0, Scene.GO, 2);
        field.run(1);
        check.due("there", field.order(0), 0);
    }

    private static void orderOfADeadUnit(Check check) {
        check.sentence(ORDER, "so of a dead one)");
        LockstepField field = Scene.begun(0, 1);
        field.command(0, 0, Scene.FIGHT, 1);
        field.command(0, 1, Scene.FIGHT, 0);
        field.command(1, 0, Scene.FIGHT, 1);
        field.run(7);
        check.due("dead, points(1)", field.points(1), 0);
        check.due("dead, order(0)", field.order(0), 0);
        check.due("dead, order(1)", field.order(1), 0);
    }

    private static void orderOfNoUnit(Check check) {
        check.sentence(ORDER, "BAD when there is none such");
        LockstepField field = Scene.begun(0, 63);
        for (int unit : NO_UNITS) {
            check.due("order(" + unit + ")", field.order(unit), Scene.BAD);
        }
        LockstepField full = Scene.begun(0, 1, 2, 3, 4, 5, 6, 7);
        check.due("order(7) of eight", full.order(7), 0);
        check.due("order(8) of eight", full.order(8), Scene.BAD);
    }

    private static void pathOfAUnit(Check check) {
        check.sentence(PATH, "Tile i of a unit's path");
        LockstepField field = Scene.begun(0, 63);
        field.command(0, 0, Scene.GO, 7);
        field.run(1);
        check.duePath("six tiles", field, 0, 2, 3, 4, 5, 6, 7);
        field.run(5);
        check.duePath("one tile", field, 0, 7);
    }

    private static void noTileOfThePath(Check check) {
        check.sentence(PATH, "BAD when there is none");
        LockstepField field = Scene.begun(0, 63);
        field.command(0, 0, Scene.GO, 7);
        field.run(1);
        check.due("the last one", field.path(0, 5), 7);
        for (int i : new int[] {-1, 6, 7, 63, 64, Scene.MIN, Scene.MAX}) {
            check.due("path(0, " + i + ")", field.path(0, i), Scene.BAD);
        }
        field.run(2);
        check.due("the tiles gone are not there", field.path(0, -1), Scene.BAD);
        check.due("one less behind each step", field.path(0, 4), Scene.BAD);
        for (int i : new int[] {Scene.MAX, Scene.MAX - 1, Scene.MAX - 2, Scene.MAX - 63}) {
            check.due("path(0, " + i + ")", field.path(0, i), Scene.BAD);
        }
    }

    private static void emptyPaths(Check check) {
        check.sentence(PATH, "BAD when there is none");
        LockstepField field = Scene.set(0, 1);
        check.duePath("before begin", field, 0);
        LockstepField dead = oneDead();
        check.duePath("dead", dead, 1);
        check.duePath("beside the one to fight", dead, 0);
        LockstepField there = Scene.begun(0);
        there.command(0, 0, Scene.GO, 1);
        there.run(1);
        check.duePath("there", there, 0);
    }

    private static void pathOfNoUnit(Check check) {
        check.sentence(PATH, "BAD when there is none");
        LockstepField field = Scene.begun(0, 63);
        for (int unit : NO_UNITS) {
            for (int i : new int[] {0, -1, 64, Scene.MIN, Scene.MAX}) {
                check.due("path(" + unit + ", " + i + ")", field.path(unit, i), Scene.BAD);
            }
        }
    }

    private static void winnerAtAnyTime(Check check) {
        check.sentence(WINNER, "The winner (at any time)");
        LockstepField field = new LockstepField();
        check.due("new", field.winner(), 3);
        field.unit(0, 0);
        check.due("before begin, side 0 alone", field.winner(), 0);
        field.unit(1, 1);
        check.due("before begin, both", field.winner(), 2);
        field.begin();
        check.due("begun", field.winner(), 2);
        field.command(0, 0, Scene.FIGHT, 1);
        field.run(6);
        check.due("before the last blow", field.winner(), 2);
        field.run(1);
        check.due("behind it", field.winner(), 0);
        field.run(20);
        check.due("for good", field.winner(), 0);
    }

    private static void oneSideLeft(Check check) {
        check.sentence(WINNER, "the side that has units that are not dead, when the other one has none");
        LockstepField one = new LockstepField();
        one.unit(1, 5);
        check.due("side 1 never had another", one.winner(), 1);
        LockstepField field = Scene.begun(0, 1);
        field.command(0, 1, Scene.FIGHT, 0);
        field.run(7);
        check.due("side 1 is left", field.winner(), 1);
        LockstepField some = Scene.begun(0, 1, 2, 63, 9);
        some.command(0, 0, Scene.FIGHT, 1);
        some.command(0, 2, Scene.FIGHT, 1);
        some.command(0, 3, Scene.FIGHT, 4);
        some.command(0, 4, Scene.FIGHT, 3);
        some.command(4, 0, Scene.FIGHT, 3);
        some.command(4, 2, Scene.FIGHT, 3);
        some.run(4);
        check.due("one of side 1 is dead", some.winner(), 2);
        some.run(20);
        check.due("side 0 is left", some.winner(), 0);
    }

    private static void bothSidesLeft(Check check) {
        check.sentence(WINNER, "2 when both have");
        LockstepField field = new LockstepField();
        field.unit(0, 0);
        field.unit(0, 1);
        field.unit(1, 63);
        field.begin();
        field.command(0, 0, Scene.FIGHT, 1);
        field.run(7);
        check.due("one of side 0 is dead", field.points(1), 0);
        check.due("one is left", field.winner(), 2);
    }

    private static void noSideLeft(Check check) {
        check.sentence(WINNER, "3 when none has");
        LockstepField none = new LockstepField();
        check.due("no units", none.winner(), 3);
        none.begin();
        none.run(1);
        check.due("no units in play", none.winner(), 3);
        LockstepField field = Scene.begun(0, 1);
        field.command(0, 0, Scene.FIGHT, 1);
        field.command(0, 1, Scene.FIGHT, 0);
        field.run(7);
        check.due("both dead", field.winner(), 3);
        LockstepField own = new LockstepField();
        own.unit(0, 0);
        own.unit(0, 1);
        own.begin();
        own.command(0, 0, Scene.FIGHT, 1);
        own.command(0, 1, Scene.FIGHT, 0);
        own.run(7);
        check.due("side 0 alone, by its own hand", own.winner(), 3);
    }
}

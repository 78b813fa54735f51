/** The document's "Terms" but for the tick: the field, the units, the log, the path. */
public final class TermsTest {
    private static final String FIELD = "Terms, the field";
    private static final String UNITS = "Terms, the units";
    private static final String LOG = "Terms, the log";
    private static final String PATH = "Terms, the path";

    public static void main(String[] args) {
        Check check = new Check();
        theField(check);
        theUnits(check);
        theDead(check);
        theLog(check);
        thePath(check);
        check.end();
    }

    private static void theField(Check check) {
        tiles(check);
        freeAtFirst(check);
        besideInOrder(check);
        besideAsFarAsThereAreSuch(check);
        stepsToNoWall(check);
        distanceOfOne(check);
        distanceOfMore(check);
    }

    private static void theUnits(Check check) {
        atMostEightUnits(check);
        sides(check);
        unitsAtFirst(check);
    }

    private static void theDead(Check check) {
        deadWithNoPoints(check);
        deadOnNoTile(check);
        deadWithNoOrder(check);
        deadWithAnEmptyPath(check);
        deadWithNoPatience(check);
        takenByTheLivingAlone(check);
    }

    private static void theLog(Check check) {
        atMostEntries(check);
        kinds(check);
        fromTickZero(check);
    }

    private static void thePath(Check check) {
        firstMetFirst(check);
        metByOrderOfTiles(check);
        metOnce(check);
        pathByStepsAlone(check);
        pathFromBehindToTheGoal(check);
        pathAvoids(check);
        goalIsNeverAvoided(check);
        emptyWhenNotMet(check);
        emptyToItself(check);
        longestPath(check);
    }

    private static void tiles(Check check) {
        check.sentence(FIELD, "THE FIELD has 64 TILES, tile 8 y + x for x, y 0 .. 7");
        LockstepField field = new LockstepField();
        for (int y = 0; y < 8; y++) {
            for (int x = 0; x < 8; x++) {
                check.due("steps(0, " + (8 * y + x) + ")", field.steps(0, 8 * y + x), x + y);
            }
        }
        check.due("tile -1", field.unit(0, -1), Scene.BAD);
        check.due("tile 64", field.unit(0, 64), Scene.BAD);
        check.due("tile 0", field.unit(0, 0), 0);
        check.due("tile 63", field.unit(0, 63), 1);
    }

    private static void freeAtFirst(Check check) {
        check.sentence(FIELD, "each free or a WALL (free at first)");
        LockstepField field = new LockstepField();
        for (int tile = 0; tile < 64; tile++) {
            check.due("free: steps(" + tile + ", " + tile + ")", field.steps(tile, tile), 0);
            field.wall(tile, true);
            check.due("a wall: steps(" + tile + ", " + tile + ")", field.steps(tile, tile), Scene.BAD);
        }
    }

    /** Over each corner there are two ways: the one that comes first in the order is gone. */
    private static void besideInOrder(Check check) {
        check.sentence(FIELD, "BESIDE a tile are, in this order, the one with y - 1, that with x + 1, "
            + "that with y + 1, that with x - 1");
        int[] goals = {20, 36, 34, 18};
        int[] first = {19, 28, 35, 19};
        for (int i = 0; i < goals.length; i++) {
            LockstepField field = Scene.begun(27);
            field.command(0, 0, Scene.GO, goals[i]);
            field.run(1);
            check.due("from 27 to " + goals[i] + ", first", field.tile(0), first[i]);
            check.duePath("from 27 to " + goals[i], field, 0, goals[i]);
        }
    }

    /** Each tile at the edge with a wall on all sides that it has: from there no other tile is beside it. */
    private static void besideAsFarAsThereAreSuch(Check check) {
        check.sentence(FIELD, "as far as there are such");
        int[] closed = {0, 7, 56, 63, 3, 24, 31, 59};
        int[][] walls = {{1, 8}, {6, 15}, {48, 57}, {55, 62}, {2, 4, 11}, {16, 25, 32}, {23, 30, 39}, {51, 58, 60}};
        for (int i = 0; i < closed.length; i++) {
            LockstepField field = Scene.walled(walls[i], closed[i]);
            for (int other = 0; other < 64; other++) {
                int due = other == closed[i] ? 0 : Scene.BAD;
                check.due("steps(" + closed[i] + ", " + other + ")", field.steps(closed[i], other), due);
                check.due("steps(" + other + ", " + closed[i] + ")", field.steps(other, closed[i]), due);
            }
            field.command(0, 0, Scene.GO, 36);
            field.run(1);
            check.dueUnit("no way out", field, 0, closed[i], 20, 0);
        }
        LockstepField open = new LockstepField();
        check.due("from a row's end to the next row", open.steps(7, 8), 8);
        check.due("from a row's beginning to the one before", open.steps(8, 7), 8);
        check.due("from the upper edge to the lower", open.steps(0, 56), 7);
        check.due("from the lower edge to the upper", open.steps(63, 7), 7);
    }

    private static void stepsToNoWall(Check check) {
        check.sentence(FIELD, "A STEP goes from a tile to one beside it that is no wall.");
        LockstepField field = Scene.walled(Scene.walls(1, 9, 17), 0);
        check.due("round the wall", field.steps(0, 2), 8);
        field.command(0, 0, Scene.GO, 2);
        int[] tiles = {8, 16, 24, 25, 26, 18, 10, 2};
        for (int tile : tiles) {
            field.run(1);
            check.due("round the wall", field.tile(0), tile);
        }
        LockstepField corner = Scene.walled(Scene.walls(1, 8), 0);
        check.due("not over a corner", corner.steps(0, 9), Scene.BAD);
    }

    private static void distanceOfOne(Check check) {
        check.sentence(FIELD, "THE DISTANCE of two tiles is that of their x and that of their y together.");
        for (int other : new int[] {19, 28, 35, 26}) {
            LockstepField field = Scene.begun(27, other);
            field.command(0, 0, Scene.FIGHT, 1);
            field.run(1);
            check.dueUnit("beside " + other, field, 0, 27, 20, Scene.fight(1));
            check.due("struck on " + other, field.points(1), 17);
        }
    }

    /** Unit 0 fights unit 1, and others hold it where it is: it would strike over a distance of 1. */
    private static void distanceOfMore(Check check) {
        check.sentence(FIELD, "THE DISTANCE of two tiles is that of their x and that of their y together.");
        int[][] scenes = {
            {7, 8, 6, 15}, {8, 7, 0, 9, 16}, {0, 9, 1, 8}, {9, 0, 1, 8, 10, 17}, {0, 2, 1, 8}, {0, 16, 1, 8},
            {0, 7, 1, 8}, {0, 56, 1, 8}, {0, 63, 1, 8}, {14, 21, 6, 13, 15, 22}, {0, 10, 1, 8}, {0, 17, 1, 8},
            {8, 2, 0, 9, 16}, {16, 1, 8, 17, 24}, {7, 13, 6, 15}, {7, 22, 6, 15},
        };
        for (int[] tiles : scenes) {
            LockstepField field = Scene.begun(tiles);
            field.command(0, 0, Scene.FIGHT, 1);
            field.run(1);
            check.dueUnit("from " + tiles[0] + " to " + tiles[1], field, 0, tiles[0], 20, Scene.fight(1));
            check.due("not struck from " + tiles[0] + " on " + tiles[1], field.points(1), 20);
        }
    }

    private static void atMostEightUnits(Check check) {
        check.sentence(UNITS, "There are at most 8 UNITS, numbered 0, 1, .. as they came");
        LockstepField field = new LockstepField();
        for (int u = 0; u < 8; u++) {
            check.due("unit " + u, field.unit(u % 2, 63 - 9 * u), u);
        }
        check.due("the ninth", field.unit(0, 1), Scene.FULL);
        for (int u = 0; u < 8; u++) {
            check.due("tile(" + u + ")", field.tile(u), 63 - 9 * u);
        }
        check.due("tile(8)", field.tile(8), Scene.BAD);
        check.due("begin()", field.begin(), 8);
    }

    private static void sides(Check check) {
        check.sentence(UNITS, "each of SIDE 0 or 1");
        LockstepField field = new LockstepField();
        check.due("side -1", field.unit(-1, 5), Scene.BAD);
        check.due("side 2", field.unit(2, 5), Scene.BAD);
        check.due("side 1", field.unit(1, 5), 0);
        check.due("side 1 alone", field.winner(), 1);
        check.due("side 0", field.unit(0, 6), 1);
        check.due("both", field.winner(), 2);
    }

    private static void unitsAtFirst(Check check) {
        LockstepField field = Scene.set(0, 63);
        check.sentence(UNITS, "with HIT POINTS (20 at first)");
        check.due("points(0)", field.points(0), 20);
        check.due("points(1)", field.points(1), 20);
        check.sentence(UNITS, "an ORDER (0 none, 1 GO with a tile, 2 FIGHT with a unit; none at first)");
        check.due("order(0)", field.order(0), 0);
        check.due("order(1)", field.order(1), 0);
        check.sentence(UNITS, "a PATH (a row of tiles, empty at first)");
        check.due("path(0, 0)", field.path(0, 0), Scene.BAD);
        check.due("path(1, 0)", field.path(1, 0), Scene.BAD);
        check.sentence(UNITS, "and PATIENCE (0 at first)");
        field.begin();
        field.run(1);
        check.due("number(0)", field.number(0),
            TickNumber.of(TickNumber.unit(20, 0, 0, 0), TickNumber.unit(20, 63, 0, 0)));
    }

    /** Unit 0 strikes unit 1, which waits to go where unit 2 stands; six ticks are played, the next one kills. */
    private static LockstepField dying() {
        LockstepField field = Scene.begun(0, 1, 2);
        field.command(0, 0, Scene.FIGHT, 1);
        field.command(0, 1, Scene.GO, 2);
        field.run(6);
        return field;
    }

    private static void deadWithNoPoints(Check check) {
        check.sentence(UNITS, "A unit with 0 hit points is DEAD");
        LockstepField field = dying();
        check.dueUnit("with 2 points it is not", field, 1, 1, 2, Scene.go(2));
        check.due("side 1 is there", field.winner(), 2);
        field.run(1);
        check.due("points(1)", field.points(1), 0);
        check.due("side 1 is not", field.winner(), 0);
    }

    private static void deadOnNoTile(Check check) {
        check.sentence(UNITS, "it stands on no tile");
        LockstepField field = dying();
        check.due("before", field.tile(1), 1);
        field.run(1);
        check.due("dead", field.tile(1), Scene.BAD);
        field.command(7, 2, Scene.GO, 1);
        field.run(1);
        check.due("another one goes there", field.tile(2), 1);
    }

    private static void deadWithNoOrder(Check check) {
        check.sentence(UNITS, "has no order");
        LockstepField field = dying();
        check.due("before", field.order(1), Scene.go(2));
        field.run(1);
        check.due("dead", field.order(1), 0);
        LockstepField fighting = Scene.begun(0, 1);
        fighting.command(0, 0, Scene.FIGHT, 1);
        fighting.command(1, 1, Scene.FIGHT, 0);
        fighting.run(7);
        check.due("dead in a fight", fighting.order(1), 0);
    }

    private static void deadWithAnEmptyPath(Check check) {
        check.sentence(UNITS, "an empty path");
        LockstepField field = dying();
        check.duePath("before", field, 1, 2);
        field.run(1);
        check.duePath("dead", field, 1);
    }

    private static void deadWithNoPatience(Check check) {
        check.sentence(UNITS, "patience 0");
        LockstepField field = dying();
        int[] striking = TickNumber.unit(20, 0, 0, Scene.FIGHT);
        int[] standing = TickNumber.unit(20, 2, 0, 0);
        check.due("patience 2 in tick 4", field.number(4),
            TickNumber.of(striking, TickNumber.unit(5, 1, 2, Scene.GO), standing));
        check.due("patience 0 in tick 5", field.number(5),
            TickNumber.of(striking, TickNumber.unit(2, 1, 0, Scene.GO), standing));
        field.run(1);
        check.due("dead in tick 6, not with patience 1", field.number(6),
            TickNumber.of(striking, TickNumber.dead(), standing));
    }

    private static void takenByTheLivingAlone(Check check) {
        check.sentence(UNITS, "Tiles of units that are not dead are TAKEN.");
        LockstepField field = Scene.begun(0, 1, 9, 17);
        field.command(0, 3, Scene.FIGHT, 2);
        field.command(0, 0, Scene.GO, 8);
        field.command(1, 0, Scene.GO, 9);
        field.run(2);
        check.dueUnit("waits while unit 2 stands on 9", field, 0, 8, 20, Scene.go(9));
        field.command(2, 0, Scene.GO, 0);
        field.run(5);
        check.due("unit 2 is dead", field.tile(2), Scene.BAD);
        field.command(7, 0, Scene.GO, 2);
        field.run(3);
        check.duePath("tile 1 is avoided, tile 9 is not", field, 0, 8, 9, 10, 2);
        field.run(2);
        check.due("goes over tile 9", field.tile(0), 9);
        // A dead unit's place must not be mixed up with the first or the last tile.
        LockstepField corners = Scene.begun(1, 2, 55, 62);
        corners.command(0, 0, Scene.FIGHT, 1);
        corners.command(7, 0, Scene.GO, 0);
        corners.command(7, 2, Scene.GO, 63);
        corners.run(8);
        check.due("tile 0 is free", corners.tile(0), 0);
        check.due("tile 63 is free", corners.tile(2), 63);
    }

    private static void atMostEntries(Check check) {
        check.sentence(LOG, "THE LOG has at most 24 ENTRIES");
        LockstepField field = Scene.begun(0, 63);
        for (int k = 0; k < 24; k++) {
            check.due("entry " + k, field.command(0, 0, Scene.GO, 10 + k), k);
        }
        check.due("one more", field.command(0, 0, Scene.GO, 5), Scene.FULL);
        check.due("entries()", field.entries(), 24);
        field.run(1);
        check.due("the last one counted", field.order(0), Scene.go(33));
    }

    private static void kinds(Check check) {
        check.sentence(LOG, "a KIND with a number: 0 STOP, 1 GO to a tile, 2 FIGHT a unit");
        LockstepField field = Scene.begun(0, 63);
        field.command(0, 0, 1, 1);
        field.command(1, 0, 2, 1);
        field.command(2, 0, 0, 1);
        field.run(1);
        check.dueUnit("GO to tile 1", field, 0, 1, 20, 0);
        field.run(1);
        check.dueUnit("FIGHT unit 1", field, 0, 2, 20, Scene.fight(1));
        field.run(1);
        check.dueUnit("STOP", field, 0, 2, 20, 0);
        check.due("kind -1", field.command(3, 0, -1, 1), Scene.BAD);
        check.due("kind 3", field.command(3, 0, 3, 1), Scene.BAD);
    }

    private static void fromTickZero(Check check) {
        check.sentence(LOG, "The play goes on from tick 0.");
        LockstepField field = Scene.begun(0);
        field.command(1, 0, Scene.GO, 56);
        field.command(0, 0, Scene.GO, 7);
        check.due("run(1)", field.run(1), 1);
        check.dueUnit("the entry of tick 0 counts", field, 0, 1, 20, Scene.go(7));
        check.due("number(0)", field.number(0), TickNumber.of(TickNumber.unit(20, 1, 0, Scene.GO)));
        check.due("number(1)", field.number(1), 0);
        check.due("run(1)", field.run(1), 2);
        check.dueUnit("then that of tick 1", field, 0, 9, 20, Scene.go(56));
    }

    /** The straight way is walled: of the ways round, the one whose tiles are met first. */
    private static void firstMetFirst(Check check) {
        check.sentence(PATH, "tiles are met from a on, first met first gone on from");
        LockstepField field = Scene.walled(Scene.walls(26), 27);
        field.command(0, 0, Scene.GO, 24);
        field.run(1);
        check.due("the first step", field.tile(0), 19);
        check.duePath("round the wall", field, 0, 18, 17, 25, 24);
        LockstepField shorter = Scene.walled(Scene.walls(9, 17, 25, 33, 41), 16);
        shorter.command(0, 0, Scene.GO, 18);
        shorter.run(1);
        check.due("the shorter way round", shorter.tile(0), 8);
        check.duePath("the shorter way round", shorter, 0, 0, 1, 2, 10, 18);
    }

    private static void metByOrderOfTiles(Check check) {
        check.sentence(PATH, "those beside one in their order");
        int[][] paths = {{9, 10, 11, 19, 27}, {27, 19, 11, 10, 9}, {11, 19, 27, 26, 25}, {25, 17, 9, 10, 11}};
        for (int[] path : paths) {
            LockstepField field = Scene.begun(path[0]);
            field.command(0, 0, Scene.GO, path[4]);
            field.run(1);
            check.due("first step to " + path[4], field.tile(0), path[1]);
            check.duePath("to " + path[4], field, 0, path[2], path[3], path[4]);
        }
    }

    /** Tile 9 is met from 1 and could be from 8, tile 10 from 2 and could be from 9. */
    private static void metOnce(Check check) {
        check.sentence(PATH, "each tile is met once, and comes from the one that it was met from");
        LockstepField field = Scene.begun(0);
        field.command(0, 0, Scene.GO, 18);
        field.run(1);
        check.due("the first step", field.tile(0), 1);
        check.duePath("to 18", field, 0, 2, 10, 18);
        LockstepField walled = Scene.walled(Scene.walls(2), 0);
        walled.command(0, 0, Scene.GO, 17);
        walled.run(1);
        check.due("the first step", walled.tile(0), 1);
        check.duePath("to 17", walled, 0, 9, 17);
    }

    private static void pathByStepsAlone(Check check) {
        check.sentence(PATH, "each by a step");
        LockstepField field = Scene.walled(Scene.walls(1, 9, 17), 0);
        field.command(0, 0, Scene.GO, 2);
        field.run(1);
        check.due("tile(0)", field.tile(0), 8);
        check.duePath("round the wall", field, 0, 16, 24, 25, 26, 18, 10, 2);
    }

    private static void pathFromBehindToTheGoal(Check check) {
        check.sentence(PATH, "the path are the tiles from behind a to b by which it came");
        LockstepField field = Scene.begun(0, 1);
        field.command(0, 0, Scene.GO, 3);
        field.run(1);
        check.due("waits", field.tile(0), 0);
        check.duePath("its own tile is not of it, the goal is", field, 0, 1, 2, 3);
        LockstepField beside = Scene.begun(0, 1);
        beside.command(0, 0, Scene.GO, 1);
        beside.run(1);
        check.duePath("one step", beside, 0, 1);
    }

    private static void pathAvoids(Check check) {
        check.sentence(PATH, "and none that is AVOIDED");
        LockstepField field = Scene.begun(0, 1, 9);
        field.command(0, 0, Scene.GO, 2);
        field.run(3);
        check.duePath("round units 1 and 2", field, 0, 8, 16, 17, 18, 10, 2);
    }

    private static void goalIsNeverAvoided(Check check) {
        check.sentence(PATH, "(b is never avoided)");
        LockstepField going = Scene.begun(0, 1, 2);
        going.command(0, 0, Scene.GO, 2);
        going.run(3);
        check.duePath("to GO where unit 2 stands", going, 0, 8, 9, 10, 2);
        LockstepField fighting = Scene.begun(0, 2, 1);
        fighting.command(0, 0, Scene.FIGHT, 1);
        fighting.run(3);
        check.duePath("to FIGHT unit 1", fighting, 0, 8, 9, 10, 2);
    }

    private static void emptyWhenNotMet(Check check) {
        check.sentence(PATH, "empty if b is not met");
        LockstepField field = Scene.walled(Scene.walls(1, 8), 0);
        field.command(0, 0, Scene.GO, 63);
        field.run(1);
        check.dueUnit("no way", field, 0, 0, 20, 0);
        check.duePath("no way", field, 0);
    }

    private static void emptyToItself(Check check) {
        check.sentence(PATH, "or is a");
        LockstepField field = Scene.begun(9);
        field.command(0, 0, Scene.GO, 9);
        field.run(1);
        check.dueUnit("to its own tile", field, 0, 9, 20, 0);
        check.duePath("to its own tile", field, 0);
        check.due("steps(9, 9)", field.steps(9, 9), 0);
    }

    /** Rows 1, 3 and 5 are walls but for a gap at one end, so that the way winds through the whole field. */
    private static void longestPath(Check check) {
        check.sentence(PATH, "when b is met, the path are the tiles from behind a to b");
        LockstepField field = Scene.walled(Scene.walls(8, 9, 10, 11, 12, 13, 14, 25, 26, 27, 28, 29, 30, 31,
            40, 41, 42, 43, 44, 45, 46), 0);
        int[] way = {1, 2, 3, 4, 5, 6, 7, 15, 23, 22, 21, 20, 19, 18, 17, 16, 24, 32, 33, 34, 35, 36, 37, 38, 39,
            47, 55, 63, 62, 61, 60, 59, 58, 57, 56};
        check.due("steps(0, 56)", field.steps(0, 56), way.length);
        field.command(0, 0, Scene.GO, 56);
        for (int gone = 0; gone < way.length; gone++) {
            field.run(1);
            check.due("step " + gone, field.tile(0), way[gone]);
            int left = way.length - 1 - gone;
            check.due("the end of the path", field.path(0, left - 1), left > 0 ? 56 : Scene.BAD);
            check.due("behind its end", field.path(0, left), Scene.BAD);
        }
        check.due("there", field.order(0), 0);
    }
}

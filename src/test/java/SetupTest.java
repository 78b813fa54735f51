/** Promises 1 to 4: a new object, wall, unit, begin. */
public final class SetupTest {
    private static final String NEW = "Promise 1";
    private static final String WALL = "Promise 2";
    private static final String UNIT = "Promise 3";
    private static final String BEGIN = "Promise 4";
    private static final int[] NO_TILES = {-1, 64, 65, -64, 128, Scene.MIN, Scene.MAX};

    public static void main(String[] args) {
        Check check = new Check();
        newObject(check);
        walls(check);
        units(check);
        begins(check);
        check.end();
    }

    private static void newObject(Check check) {
        allTilesFree(check);
        noUnits(check);
        emptyLog(check);
        notBegun(check);
        eachObjectIsNew(check);
    }

    private static void walls(Check check) {
        wallOrFree(check);
        wallThatIsSo(check);
        wallAfterBegin(check);
        wallOnNoTile(check);
        wallWhereAUnitStands(check);
    }

    private static void units(Check check) {
        unitsComeWithNumbers(check);
        unitAfterBegin(check);
        unitOfNoSide(check);
        unitOnNoTile(check);
        unitOnAWall(check);
        unitOnATakenTile(check);
        ninthUnit(check);
    }

    private static void begins(Check check) {
        beginsBeforeTickZero(check);
        howManyUnits(check);
        beginsOnce(check);
    }

    private static void allTilesFree(Check check) {
        check.sentence(NEW, "All tiles free");
        LockstepField field = new LockstepField();
        for (int tile = 0; tile < 64; tile++) {
            check.due("steps(0, " + tile + ")", field.steps(0, tile), tile % 8 + tile / 8);
        }
    }

    private static void noUnits(Check check) {
        check.sentence(NEW, "no units");
        LockstepField field = new LockstepField();
        check.due("winner()", field.winner(), 3);
        for (int unit = 0; unit < 8; unit++) {
            check.dueUnit("new", field, unit, Scene.BAD, Scene.BAD, Scene.BAD);
            check.duePath("new", field, unit);
        }
        check.due("begin()", field.begin(), 0);
    }

    private static void emptyLog(Check check) {
        check.sentence(NEW, "an empty log");
        LockstepField field = new LockstepField();
        check.due("entries()", field.entries(), 0);
        check.due("forget(0)", field.forget(0), false);
    }

    private static void notBegun(Check check) {
        check.sentence(NEW, "the play has not begun");
        LockstepField field = new LockstepField();
        check.due("run(1)", field.run(1), Scene.EARLY);
        check.due("number(0)", field.number(0), 0);
        check.due("replay()", field.replay(), -1);
        check.due("wall(9, true)", field.wall(9, true), true);
        check.due("unit(0, 8)", field.unit(0, 8), 0);
        check.due("command(0, 0, 0, 0)", field.command(0, 0, 0, 0), Scene.EARLY);
        check.due("begin()", field.begin(), 1);
    }

    private static void eachObjectIsNew(Check check) {
        check.sentence(NEW, "All tiles free, no units, an empty log; the play has not begun.");
        LockstepField played = Scene.walled(Scene.walls(5), 0, 63);
        played.command(0, 0, Scene.GO, 7);
        played.run(3);
        LockstepField field = new LockstepField();
        check.due("steps(5, 5)", field.steps(5, 5), 0);
        check.due("tile(0)", field.tile(0), Scene.BAD);
        check.due("entries()", field.entries(), 0);
        check.due("number(0)", field.number(0), 0);
        check.due("begin()", field.begin(), 0);
        check.due("run(1)", field.run(1), 1);
        check.due("the other one stays as it was", played.tile(0), 3);
    }

    private static void wallOrFree(Check check) {
        check.sentence(WALL, "A tile becomes a wall, or free");
        for (int tile : new int[] {0, 7, 31, 32, 56, 63}) {
            LockstepField field = new LockstepField();
            check.due("wall(" + tile + ", true)", field.wall(tile, true), true);
            for (int other = 0; other < 64; other++) {
                int due = other == tile ? Scene.BAD : 0;
                check.due("steps(" + other + ", " + other + ")", field.steps(other, other), due);
            }
            check.due("wall(9, true)", field.wall(9, true), true);
            check.due("wall(" + tile + ", false)", field.wall(tile, false), true);
            check.due("free again", field.steps(tile, tile), 0);
            check.due("the other one is a wall still", field.steps(9, 9), Scene.BAD);
        }
    }

    private static void wallThatIsSo(Check check) {
        check.sentence(WALL, "(true, too, if it is so)");
        LockstepField field = new LockstepField();
        check.due("free, wall(5, false)", field.wall(5, false), true);
        check.due("free still", field.steps(5, 5), 0);
        check.due("wall(5, true)", field.wall(5, true), true);
        check.due("a wall, wall(5, true)", field.wall(5, true), true);
        check.due("a wall still", field.steps(5, 5), Scene.BAD);
    }

    private static void wallAfterBegin(Check check) {
        check.sentence(WALL, "False, changing nothing, when the play has begun");
        Twins begun = new Twins(check, () -> Scene.walled(Scene.walls(21), 20, 63));
        begun.refused("a wall", field -> field.wall(0, true));
        begun.refused("free", field -> field.wall(21, false));
        begun.refused("a wall that is one", field -> field.wall(21, true));
        begun.refused("free that is so", field -> field.wall(0, false));
        Twins midway = new Twins(check, Scene::midway);
        midway.refused("a wall on a unit's path", field -> field.wall(3, true));
        midway.refused("a wall where a unit has come", field -> field.wall(25, true));
        midway.refused("a wall where a unit came from", field -> field.wall(56, true));
        midway.refused("a wall where a unit has died", field -> field.wall(63, true));
        midway.refused("a way out for unit 1", field -> field.wall(9, false));
    }

    private static void wallOnNoTile(Check check) {
        check.sentence(WALL, "there is no such tile");
        for (boolean is : new boolean[] {true, false}) {
            Twins twins = new Twins(check, () -> {
                LockstepField field = Scene.set(20, 43);
                field.wall(0, true);
                field.wall(62, true);
                return field;
            });
            for (int tile : NO_TILES) {
                twins.refused("wall(" + tile + ", " + is + ")", field -> field.wall(tile, is));
            }
        }
    }

    private static void wallWhereAUnitStands(Check check) {
        check.sentence(WALL, "or a unit stands there");
        Twins twins = new Twins(check, () -> Scene.set(0, 20, 63));
        for (int tile : new int[] {0, 20, 63}) {
            twins.refused("wall(" + tile + ", true)", field -> field.wall(tile, true));
            twins.refused("wall(" + tile + ", false)", field -> field.wall(tile, false));
        }
        LockstepField beside = Scene.set(20);
        check.due("beside a unit", beside.wall(21, true), true);
    }

    private static void unitsComeWithNumbers(Check check) {
        check.sentence(UNIT, "A unit comes: its number.");
        LockstepField field = new LockstepField();
        for (int u = 0; u < 8; u++) {
            check.due("unit " + u, field.unit(u % 2, 9 * u), u);
            check.dueUnit("as it came", field, u, 9 * u, 20, 0);
            check.duePath("as it came", field, u);
        }
        LockstepField refused = new LockstepField();
        check.due("first", refused.unit(1, 5), 0);
        check.due("one that does not come", refused.unit(1, 5), Scene.BAD);
        check.due("takes no number", refused.unit(1, 6), 1);
    }

    private static void unitAfterBegin(Check check) {
        check.sentence(UNIT, "EARLY when the play has begun");
        Twins twins = new Twins(check, () -> Scene.walled(Scene.walls(9), 0, 63));
        twins.unchanged("unit(0, 5)", Scene.EARLY, field -> field.unit(0, 5));
        twins.unchanged("EARLY before BAD, side", Scene.EARLY, field -> field.unit(2, 5));
        twins.unchanged("EARLY before BAD, tile", Scene.EARLY, field -> field.unit(0, 64));
        twins.unchanged("EARLY before BAD, wall", Scene.EARLY, field -> field.unit(0, 9));
        twins.unchanged("EARLY before BAD, taken", Scene.EARLY, field -> field.unit(0, 63));
        Twins full = new Twins(check, Scene::midway);
        full.unchanged("EARLY before FULL", Scene.EARLY, field -> field.unit(0, 20));
        full.unchanged("EARLY where a unit has died", Scene.EARLY, field -> field.unit(0, 63));
    }

    private static void unitOfNoSide(Check check) {
        check.sentence(UNIT, "BAD when side is not 0 or 1");
        Twins twins = new Twins(check, () -> Scene.set(0, 63));
        for (int side : new int[] {-1, 2, 3, Scene.MIN, Scene.MAX}) {
            twins.unchanged("unit(" + side + ", 5)", Scene.BAD, field -> field.unit(side, 5));
        }
    }

    private static void unitOnNoTile(Check check) {
        check.sentence(UNIT, "there is no such tile");
        Twins twins = new Twins(check, () -> Scene.set(1, 62));
        for (int tile : NO_TILES) {
            twins.unchanged("unit(0, " + tile + ")", Scene.BAD, field -> field.unit(0, tile));
            twins.unchanged("unit(1, " + tile + ")", Scene.BAD, field -> field.unit(1, tile));
        }
    }

    private static void unitOnAWall(Check check) {
        check.sentence(UNIT, "or it is a wall");
        Twins twins = new Twins(check, () -> {
            LockstepField field = Scene.set(0, 62);
            field.wall(7, true);
            field.wall(63, true);
            return field;
        });
        twins.unchanged("unit(0, 7)", Scene.BAD, field -> field.unit(0, 7));
        twins.unchanged("unit(1, 63)", Scene.BAD, field -> field.unit(1, 63));
        LockstepField free = new LockstepField();
        free.wall(7, true);
        free.wall(7, false);
        check.due("where a wall was", free.unit(1, 7), 0);
    }

    private static void unitOnATakenTile(Check check) {
        check.sentence(UNIT, "or taken");
        Twins twins = new Twins(check, () -> Scene.set(0, 63));
        twins.unchanged("the other side's", Scene.BAD, field -> field.unit(1, 0));
        twins.unchanged("its own side's", Scene.BAD, field -> field.unit(1, 63));
    }

    private static void ninthUnit(Check check) {
        check.sentence(UNIT, "FULL when there are 8");
        Twins twins = new Twins(check, () -> {
            LockstepField field = Scene.set(0, 9, 18, 27, 36, 45, 54, 63);
            field.wall(2, true);
            return field;
        });
        twins.unchanged("the ninth", Scene.FULL, field -> field.unit(0, 1));
        twins.unchanged("BAD before FULL, side", Scene.BAD, field -> field.unit(2, 1));
        twins.unchanged("BAD before FULL, tile", Scene.BAD, field -> field.unit(0, 64));
        twins.unchanged("BAD before FULL, wall", Scene.BAD, field -> field.unit(0, 2));
        twins.unchanged("BAD before FULL, taken", Scene.BAD, field -> field.unit(0, 9));
    }

    private static void beginsBeforeTickZero(Check check) {
        check.sentence(BEGIN, "The play begins, before tick 0");
        LockstepField field = Scene.begun(0, 63);
        check.due("no tick is played by it", field.number(0), 0);
        check.due("tick 0 is not over", field.command(0, 0, Scene.GO, 7), 0);
        check.due("the first tick", field.run(1), 1);
        check.due("it was tick 0", field.tile(0), 1);
    }

    private static void howManyUnits(Check check) {
        check.sentence(BEGIN, "how many units there are");
        int[] tiles = {3, 4, 5, 6, 7, 8, 9, 10};
        for (int count = 0; count <= 8; count++) {
            LockstepField field = new LockstepField();
            for (int u = 0; u < count; u++) {
                field.unit(1, tiles[u]);
            }
            check.due(count + " units", field.begin(), count);
        }
    }

    private static void beginsOnce(Check check) {
        check.sentence(BEGIN, "EARLY when it has begun");
        Twins twins = new Twins(check, () -> Scene.begun(0, 63));
        twins.unchanged("at once", Scene.EARLY, LockstepField::begin);
        Twins midway = new Twins(check, Scene::midway);
        midway.unchanged("after eight ticks", Scene.EARLY, LockstepField::begin);
        LockstepField none = Scene.begun();
        check.due("without units", none.begin(), Scene.EARLY);
    }
}

/** Counts the answers that are not the ones that are due, and ends a test with exit code 1 if there was one. */
final class Check {
    private int wrong;
    private int looked;

    void due(String what, long got, long want) {
        looked++;
        if (got != want) {
            wrong++;
            System.out.println(what + " answered " + got + ", due is " + want);
        }
    }

    void due(String what, boolean got, boolean want) {
        due(what, got ? 1 : 0, want ? 1 : 0);
    }

    /** The path of a unit, whole: nothing may come behind it. */
    void duePath(String what, LockstepField field, int unit, int... tiles) {
        for (int i = 0; i < tiles.length; i++) {
            due(what + ", path(" + unit + ", " + i + ")", field.path(unit, i), tiles[i]);
        }
        due(what + ", path(" + unit + ", " + tiles.length + ")", field.path(unit, tiles.length), LockstepField.BAD);
    }

    /** Tile, points and order of a unit. */
    void dueUnit(String what, LockstepField field, int unit, int tile, int points, int order) {
        due(what + ", tile(" + unit + ")", field.tile(unit), tile);
        due(what + ", points(" + unit + ")", field.points(unit), points);
        due(what + ", order(" + unit + ")", field.order(unit), order);
    }

    void end() {
        System.out.println(wrong + " of " + looked + " answers are not as due");
        endIfWrong();
    }

    void endIfWrong() {
        if (wrong != 0) {
            System.exit(1);
        }
    }
}

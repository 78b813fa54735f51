/** Counts the answers that are not the ones that are due, and ends a test with exit code 1 if there was one. */
final class Check {
    private int wrong;
    private int looked;
    private String about = "";

    /** The words of the document by which the answers from here on are due; a wrong answer is told with them. */
    void sentence(String where, String words) {
        about = where + ", \"" + words + "\": ";
    }

    void due(String what, long got, long want) {
        due(what, Long.toString(got), Long.toString(want));
    }

    void due(String what, boolean got, boolean want) {
        due(what, Boolean.toString(got), Boolean.toString(want));
    }

    void due(String what, String got, String want) {
        looked++;
        if (!got.equals(want)) {
            wrong++;
            System.out.println(about + what + " answered " + got + ", due is " + want);
        }
    }

    /** The path of a unit, whole: nothing may come behind it. */
    void duePath(String what, LockstepField field, int unit, int... tiles) {
        for (int i = 0; i < tiles.length; i++) {
            due(what + ", path(" + unit + ", " + i + ")", field.path(unit, i), tiles[i]);
        }
        due(what + ", path(" + unit + ", " + tiles.length + ")", field.path(unit, tiles.length), LockstepField.BAD);
    }

    /** Tile, points and order of a unit. */
    void dueUnit(String what, LockstepField field, int unit, int tile, int points, int order) {
        due(what + ", tile(" + unit + ")", field.tile(unit), tile);
        due(what + ", points(" + unit + ")", field.points(unit), points);
        due(what + ", order(" + unit + ")", field.order(unit), order);
    }

    void end() {
        System.out.println(wrong + " of " + looked + " answers are not as due");
        endIfWrong();
    }

    void endIfWrong() {
        if (wrong != 0) {
            System.exit(1);
        }
    }
}

/** Fields to begin a test with, and the numbers by which the tests name things. */
final class Scene {
    static final int BAD = LockstepField.BAD;
    static final int FULL = LockstepField.FULL;
    static final int EARLY = LockstepField.EARLY;
    static final int MIN = Integer.MIN_VALUE;
    static final int MAX = Integer.MAX_VALUE;
    static final int STOP = 0;
    static final int GO = 1;
    static final int FIGHT = 2;

    private Scene() {
    }

    /** Units of sides 0, 1, 0, 1, .. on the tiles; the play has not begun. */
    static LockstepField set(int... tiles) {
        LockstepField field = new LockstepField();
        addUnits(field, tiles);
        return field;
    }

    static LockstepField begun(int... tiles) {
        LockstepField field = set(tiles);
        field.begin();
        return field;
    }

    static LockstepField walled(int[] walls, int... tiles) {
        LockstepField field = new LockstepField();
        for (int wall : walls) {
            field.wall(wall, true);
        }
        addUnits(field, tiles);
        field.begin();
        return field;
    }

    /**
     * Eight ticks are played. Unit 0 is on its way, unit 1 waits with patience 2, unit 3 has killed unit 4,
     * unit 5 has struck unit 6 and stopped; unit 7 has not stirred. Of seven entries two are to come.
     */
    static LockstepField midway() {
        LockstepField field = walled(walls(0, 9), 56, 1, 2, 62, 63, 31, 39, 40);
        field.command(0, 0, GO, 7);
        field.command(0, 1, GO, 3);
        field.command(0, 3, FIGHT, 4);
        field.command(6, 5, FIGHT, 6);
        field.run(7);
        field.command(7, 5, STOP, 0);
        field.run(1);
        field.command(8, 6, FIGHT, 5);
        field.command(10, 7, FIGHT, 2);
        return field;
    }

    static int[] walls(int... tiles) {
        return tiles;
    }

    /** What order() answers for a unit that is to GO to a tile. */
    static int go(int tile) {
        return 1 + 4 * tile;
    }

    /** What order() answers for a unit that is to FIGHT another one. */
    static int fight(int unit) {
        return 2 + 4 * unit;
    }

    private static void addUnits(LockstepField field, int[] tiles) {
        for (int u = 0; u < tiles.length; u++) {
            field.unit(u % 2, tiles[u]);
        }
    }
}

/** Promise 8: replay. */
public final class ReplayTest {
    public static void main(String[] args) {
        Check check = new Check();
        nothingPlayed(check);
        sameLog(check);
        forgottenEntry(check);
        orderAmongEntries(check);
        entriesToCome(check);
        playStays(check);
        partsAgainAfterMore(check);
        check.end();
    }

    private static LockstepField twoUnits() {
        LockstepField field = new LockstepField();
        field.unit(0, 0);
        field.unit(1, 63);
        field.begin();
        return field;
    }

    private static void nothingPlayed(Check check) {
        LockstepField field = new LockstepField();
        check.due("before begin", field.replay(), -1);
        field.unit(0, 0);
        check.due("before begin, a unit", field.replay(), -1);
        field.begin();
        check.due("0 ticks", field.replay(), -1);
        field.command(0, 0, 1, 5);
        check.due("0 ticks, an entry", field.replay(), -1);
    }

    private static void sameLog(Check check) {
        LockstepField field = twoUnits();
        field.command(0, 0, 2, 1);
        field.command(2, 1, 2, 0);
        for (int i = 0; i < 10; i++) {
            field.run(20);
            check.due("the same log", field.replay(), -1);
            check.due("and once more", field.replay(), -1);
        }
    }

    private static void forgottenEntry(Check check) {
        LockstepField field = twoUnits();
        field.command(0, 0, 1, 56);
        field.command(4, 1, 1, 60);
        field.command(9, 0, 0, 0);
        field.run(20);
        check.due("replay()", field.replay(), -1);
        field.forget(2);
        check.due("a stop after it is there", field.replay(), -1);
        field.forget(1);
        check.due("an entry of tick 4", field.replay(), 4);
        field.forget(0);
        check.due("an entry of tick 0", field.replay(), 0);
    }

    /** Both of one tick: when the one that counted goes, the other counts. */
    private static void orderAmongEntries(Check check) {
        LockstepField field = twoUnits();
        field.command(3, 0, 1, 7);
        field.command(3, 0, 1, 56);
        field.run(6);
        field.forget(0);
        check.due("the first did not count", field.replay(), -1);
        field = twoUnits();
        field.command(3, 0, 1, 7);
        field.command(3, 0, 1, 56);
        field.run(6);
        field.forget(1);
        check.due("the second did", field.replay(), 3);
    }

    private static void entriesToCome(Check check) {
        LockstepField field = twoUnits();
        field.run(5);
        field.command(5, 0, 1, 7);
        field.command(100, 1, 1, 7);
        check.due("entries of ticks to come", field.replay(), -1);
        field.run(1);
        check.due("one of them played", field.replay(), -1);
    }

    private static void playStays(Check check) {
        LockstepField field = twoUnits();
        field.command(0, 0, 1, 7);
        field.command(0, 1, 2, 0);
        field.run(3);
        field.forget(0);
        int number = field.number(2);
        check.due("parts at once", field.replay(), 0);
        check.dueUnit("the play stays", field, 0, 3, 20, 1 + 4 * 7);
        check.duePath("the play stays", field, 0, 4, 5, 6, 7);
        check.dueUnit("the play stays", field, 1, 39, 20, 2);
        check.due("its number", field.number(2), number);
        check.due("entries()", field.entries(), 1);
        check.due("goes on", field.run(1), 4);
        check.due("tile(0)", field.tile(0), 4);
    }

    /** The play went on from what was played, so the tick where they part stays the first one. */
    private static void partsAgainAfterMore(Check check) {
        LockstepField field = twoUnits();
        field.command(1, 0, 1, 7);
        field.run(4);
        field.forget(0);
        field.command(4, 0, 0, 0);
        field.run(4);
        check.due("replay()", field.replay(), 1);
        field.command(8, 0, 1, 0);
        field.run(20);
        check.due("replay()", field.replay(), 1);
    }
}

/** Promise 8: replay. */
public final class ReplayTest {
    private static final String REPLAY = "Promise 8";

    public static void main(String[] args) {
        Check check = new Check();
        logAsItIsNow(check);
        unitsAsTheyCame(check);
        asManyTicksAsWerePlayed(check);
        firstTickOfAnotherNumber(check);
        firstAndLastTick(check);
        partsForGood(check);
        noneIsAnother(check);
        entryThatDidNothing(check);
        playStays(check);
        noTicks(check);
        check.end();
    }

    /** Both of one tick: when the one that counted goes, the other counts. */
    private static void logAsItIsNow(Check check) {
        check.sentence(REPLAY, "The log, as it is now, is played from the beginning");
        LockstepField field = Scene.begun(0, 63);
        field.command(3, 0, Scene.GO, 7);
        field.command(3, 0, Scene.GO, 56);
        field.command(5, 1, Scene.GO, 60);
        field.run(8);
        check.due("the whole log", field.replay(), -1);
        field.forget(0);
        check.due("the first did not count", field.replay(), -1);
        field.forget(1);
        check.due("the entry of tick 5 is gone", field.replay(), 5);
        field.forget(0);
        check.due("the entry of tick 3 is gone, too", field.replay(), 3);
    }

    /** Units have gone, waited, been struck and died when the log is played again. */
    private static void unitsAsTheyCame(Check check) {
        check.sentence(REPLAY, "(units as they came)");
        LockstepField field = Scene.walled(Scene.walls(9), 0, 1, 63, 62, 2);
        field.command(0, 0, Scene.GO, 2);
        field.command(0, 2, Scene.FIGHT, 3);
        field.command(1, 3, Scene.FIGHT, 2);
        field.command(2, 4, Scene.FIGHT, 1);
        for (int i = 0; i < 12; i++) {
            field.run(1);
            check.due("behind tick " + i, field.replay(), -1);
            check.due("and once more", field.replay(), -1);
        }
        check.due("two have died", field.points(1) + field.points(3), 0);
    }

    private static void asManyTicksAsWerePlayed(Check check) {
        check.sentence(REPLAY, "as many ticks as were played");
        LockstepField field = Scene.begun(0, 63);
        field.run(5);
        field.command(5, 0, Scene.GO, 7);
        field.command(100, 1, Scene.GO, 7);
        check.due("entries of ticks to come", field.replay(), -1);
        field.run(1);
        check.due("one of them played", field.replay(), -1);
        field.forget(0);
        check.due("and gone", field.replay(), 5);
    }

    /** By the other order the unit goes the same way at first, so that the numbers are the same up to tick 2. */
    private static void firstTickOfAnotherNumber(Check check) {
        check.sentence(REPLAY, "the first tick whose number is another one than it was");
        LockstepField field = Scene.begun(0);
        field.command(0, 0, Scene.GO, 7);
        field.command(0, 0, Scene.GO, 3);
        field.run(10);
        field.forget(1);
        check.due("there by one log, on its way by the other", field.replay(), 2);
    }

    private static void firstAndLastTick(Check check) {
        check.sentence(REPLAY, "the first tick whose number is another one than it was");
        LockstepField field = Scene.begun(0, 63);
        field.command(0, 0, Scene.GO, 7);
        field.command(199, 1, Scene.GO, 0);
        for (int i = 0; i < 10; i++) {
            field.run(20);
        }
        check.due("200 ticks", field.replay(), -1);
        field.forget(1);
        check.due("the last", field.replay(), 199);
        field.forget(0);
        check.due("the first", field.replay(), 0);
    }

    /** The play went on from what was played, so the tick where they part stays the first one. */
    private static void partsForGood(Check check) {
        check.sentence(REPLAY, "than it was");
        LockstepField field = Scene.begun(0, 63);
        field.command(1, 0, Scene.GO, 7);
        field.run(4);
        field.forget(0);
        field.command(4, 0, Scene.STOP, 0);
        field.run(4);
        check.due("replay()", field.replay(), 1);
        field.command(8, 0, Scene.GO, 0);
        field.run(20);
        check.due("both stand on tile 0 at last", field.tile(0), 0);
        check.due("replay()", field.replay(), 1);
    }

    private static void noneIsAnother(Check check) {
        check.sentence(REPLAY, "-1 when none is.");
        LockstepField field = Scene.begun(0, 63);
        field.command(0, 0, Scene.FIGHT, 1);
        field.command(2, 1, Scene.FIGHT, 0);
        for (int i = 0; i < 10; i++) {
            field.run(20);
            check.due("the same log", field.replay(), -1);
        }
        LockstepField empty = Scene.begun();
        empty.run(20);
        check.due("no units", empty.replay(), -1);
    }

    private static void entryThatDidNothing(Check check) {
        check.sentence(REPLAY, "-1 when none is.");
        LockstepField field = Scene.begun(0, 63);
        field.command(0, 0, Scene.GO, 2);
        field.command(9, 0, Scene.STOP, 0);
        field.run(20);
        field.forget(1);
        check.due("a stop after it is there", field.replay(), -1);
    }

    private static void playStays(Check check) {
        check.sentence(REPLAY, "(The play stays where it is.");
        Twins same = new Twins(check, Scene::midway);
        same.unchanged("the same log", -1, LockstepField::replay);
        same.unchanged("and once more", -1, field -> field.replay() + field.replay() + 1);
        Twins another = new Twins(check, () -> {
            LockstepField field = Scene.midway();
            field.forget(4);
            return field;
        });
        another.unchanged("another log", 7, LockstepField::replay);
        another.unchanged("and once more", 14, field -> field.replay() + field.replay());
    }

    private static void noTicks(Check check) {
        check.sentence(REPLAY, "0 ticks: -1.)");
        Twins before = new Twins(check, () -> Scene.set(0, 63));
        before.unchanged("before begin", -1, LockstepField::replay);
        Twins begun = new Twins(check, () -> {
            LockstepField field = Scene.begun(0, 63);
            field.command(0, 0, Scene.GO, 5);
            return field;
        });
        begun.unchanged("before tick 0, an entry for it", -1, LockstepField::replay);
    }
}

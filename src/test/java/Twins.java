import java.util.ArrayList;
import java.util.List;
import java.util.function.Predicate;
import java.util.function.Supplier;
import java.util.function.ToIntFunction;

/** Two fields with the same calls behind them; then one call, that should change nothing, is made on one alone. */
final class Twins {
    private final Check check;
    private final Supplier<LockstepField> scene;
    private final boolean begun;

    Twins(Check check, Supplier<LockstepField> scene) {
        this.check = check;
        this.scene = scene;
        begun = scene.get().begin() == LockstepField.EARLY;
    }

    /** Each call has two new fields of its own, lest one call hide what another one changed. */
    void unchanged(String what, int due, ToIntFunction<LockstepField> call) {
        LockstepField called = scene.get();
        check.due(what, call.applyAsInt(called), due);
        dueAlike("behind " + what, story(called), story(scene.get()));
    }

    /** The same for a call that answers false. */
    void refused(String what, Predicate<LockstepField> call) {
        unchanged(what, 0, field -> call.test(field) ? 1 : 0);
    }

    private void dueAlike(String what, List<String> got, List<String> want) {
        check.due(what + ", how much can be asked", got.size(), want.size());
        for (int i = 0; i < Math.min(got.size(), want.size()); i++) {
            check.due(what, got.get(i), want.get(i));
        }
    }

    /** What can be asked, and what shows only as the play goes on; the dearest questions last, lest they change it. */
    private List<String> story(LockstepField field) {
        List<String> story = new ArrayList<>();
        addUnits(field, story);
        int asked = addNumbers(field, story, 0);
        if (!begun) {
            story.add("begin() " + field.begin());
        }
        story.add("run(1) " + field.run(1));
        story.add("run(20) " + field.run(20));
        addUnits(field, story);
        addNumbers(field, story, asked);
        story.add("replay() " + field.replay());
        story.add("forget(0) " + field.forget(0));
        story.add("replay() " + field.replay());
        for (int tile = 0; tile < 64; tile++) {
            story.add("steps(" + tile + ", " + tile + ") " + field.steps(tile, tile));
        }
        return story;
    }

    private static void addUnits(LockstepField field, List<String> story) {
        for (int unit = 0; unit < 9; unit++) {
            story.add("unit " + unit + ": tile, points, order "
                + field.tile(unit) + " " + field.points(unit) + " " + field.order(unit));
            int tile = field.path(unit, 0);
            for (int i = 1; i <= 64 && tile != LockstepField.BAD; i++) {
                story.add("path of unit " + unit + " " + tile);
                tile = field.path(unit, i);
            }
        }
        story.add("entries() " + field.entries());
        story.add("winner() " + field.winner());
    }

    /** From a tick on up to the first one that was not played, which is answered. */
    private static int addNumbers(LockstepField field, List<String> story, int from) {
        int tick = from;
        int number = field.number(tick);
        while (tick <= 200 && number != 0) {
            story.add("number(" + tick + ") " + number);
            tick++;
            number = field.number(tick);
        }
        return tick;
    }
}

import java.util.ArrayList;
import java.util.EnumMap;
import java.util.List;
import java.util.Map;

/** What one call does to objects in every stage. */
final class Calls {
    interface Call {
        Object on(DecentLabels x);
    }

    private static final Map<Stage, List<Integer>> FUTURES = new EnumMap<>(Stage.class);
    private static final Map<Stage, Seen> FIRST_ANSWERS = new EnumMap<>(Stage.class);

    private Calls() {
    }

    /** In every stage the call answers what is due and changes neither what is seen nor what comes later. */
    static void refused(String name, Object due, Call call) {
        for (Stage stage : Stage.values()) {
            DecentLabels x = stage.make();
            Seen before = Seen.of(x);
            Due.same(name + " when " + stage, call.on(x), due);
            Due.same("changed by " + name + " when " + stage, before.changedTo(Seen.of(x)), "");
            sameLater(name, stage, x);
        }
    }

    /**
     * In no stage does the question change an answer, or what comes later. Each answer is asked of an object
     * that was asked nothing else, since the asking itself could make the change.
     */
    static void changesNothing(String name, Call question) {
        for (Stage stage : Stage.values()) {
            Seen untouched = FIRST_ANSWERS.computeIfAbsent(stage, s -> Seen.oneByOne(s::make));
            Seen asked = Seen.oneByOne(() -> askedOnce(stage, question));
            Due.same("changed by " + name + " when " + stage, untouched.changedTo(asked), "");
            sameLater(name, stage, askedOnce(stage, question));
        }
    }

    private static DecentLabels askedOnce(Stage stage, Call question) {
        DecentLabels x = stage.make();
        question.on(x);
        return x;
    }

    /** In every stage the call answers what is due, RESETs, and beside that makes the changes alone. */
    static void resets(String name, Object due, Call call, String... changes) {
        for (Stage stage : Stage.values()) {
            DecentLabels x = stage.make();
            Seen before = Seen.of(x);
            Due.same(name + " when " + stage, call.on(x), due);
            Seen expected = before.reset().with(changes);
            Due.same("not as due after " + name + " when " + stage, expected.changedTo(Seen.of(x)), "");
            Due.is("start() after " + name + " when " + stage, x.start(), false);
        }
    }

    private static void sameLater(String name, Stage stage, DecentLabels x) {
        List<Integer> untouched = FUTURES.computeIfAbsent(stage, s -> future(s.make()));
        Due.is("the same later, after " + name + " when " + stage, future(x).equals(untouched), true);
    }

    // Answers to a fixed series of calls that uses all that an object holds, direct edges too. The questions
    // come after a run and a check: one that changes something would hide its change.
    private static List<Integer> future(DecentLabels x) {
        List<Integer> answers = new ArrayList<>();
        for (int i = 0; i < 12; i++) {
            answers.add(x.run(1));
        }
        answers.add(x.start() ? 1 : 0);
        answers.add(x.run(1000));
        x.setActsFor(4, 3, false);
        answers.add(x.check());
        answers.add(x.start() ? 1 : 0);
        answers.add(x.run(1000));
        Seen.of(x).addTo(answers);
        for (int i = 0; i < 64; i++) {
            answers.add(x.addStmt(DecentLabels.K_DECLASSIFY, i % 16, 5, 0));
        }
        for (int edge = 0; edge < 64; edge++) {
            x.setActsFor(edge / 8, edge % 8, false);
            answers.add(x.check());
        }
        Seen.of(x).addTo(answers);
        return answers;
    }
}

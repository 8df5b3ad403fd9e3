import java.util.ArrayList;
import java.util.List;
import java.util.Map;
import java.util.TreeMap;
import java.util.function.Supplier;

/** All that the class answers about one object at one moment, to tell what a call changed. */
final class Seen {
    private interface Question {
        int ask(DecentLabels x);
    }

    private static final Map<String, Question> QUESTIONS = questions();
    private static final List<String> NAMES = new ArrayList<>(QUESTIONS.keySet());

    private final int[] answers = new int[NAMES.size()];

    static Seen of(DecentLabels x) {
        return oneByOne(() -> x);
    }

    /** Every question put to an object of its own. */
    static Seen oneByOne(Supplier<DecentLabels> objects) {
        Seen seen = new Seen();
        int i = 0;
        for (Question question : QUESTIONS.values()) {
            seen.answers[i] = question.ask(objects.get());
            i++;
        }
        return seen;
    }

    private static Map<String, Question> questions() {
        Map<String, Question> all = new TreeMap<>();
        addHierarchyAndLabels(all);
        addProgram(all);
        addRun(all);
        return all;
    }

    private static void addHierarchyAndLabels(Map<String, Question> all) {
        for (int p = 0; p < 8; p++) {
            int a = p;
            for (int q = 0; q < 8; q++) {
                int b = q;
                all.put("actsFor " + a + " " + b, x -> x.actsFor(a, b) ? 1 : 0);
            }
            for (int t = 0; t < 20; t++) {
                int target = t;
                all.put("policy " + target + " " + a, x -> x.getPolicy(target, a));
                all.put("canRead " + a + " " + target, x -> x.canRead(a, target) ? 1 : 0);
            }
        }
    }

    private static void addProgram(Map<String, Question> all) {
        for (int i = 0; i < 64; i++) {
            int index = i;
            for (int f = 0; f < 4; f++) {
                int field = f;
                all.put("stmt " + index + " " + field, x -> x.getStmt(index, field));
            }
        }
    }

    private static void addRun(Map<String, Question> all) {
        for (int s = 0; s <= DecentLabels.SLOT_CHECK; s++) {
            int slot = s;
            all.put("value " + slot, x -> x.getValue(slot));
        }
        for (int channel = 0; channel < 4; channel++) {
            int c = channel;
            all.put("outCount " + c, x -> x.outCount(c));
            for (int place = 0; place < 16; place++) {
                int i = place;
                all.put("out " + c + " " + i, x -> x.outValue(c, i));
            }
        }
    }

    /** This with other answers, each given as "name=answer". */
    Seen with(String... changes) {
        Seen changed = new Seen();
        System.arraycopy(answers, 0, changed.answers, 0, answers.length);
        for (String change : changes) {
            String[] parts = change.split("=");
            changed.answers[NAMES.indexOf(parts[0])] = Integer.parseInt(parts[1]);
        }
        return changed;
    }

    /** This with every channel empty. */
    Seen withoutOutput() {
        List<String> changes = new ArrayList<>();
        for (String name : NAMES) {
            if (name.startsWith("out")) {
                changes.add(name + "=0");
            }
        }
        return with(changes.toArray(new String[0]));
    }

    /** This as RESET leaves it. */
    Seen reset() {
        return withoutOutput().with("value 34=0", "value 35=0", "value 36=-1");
    }

    /** This as it is when there is no statement. */
    Seen withoutProgram() {
        List<String> changes = new ArrayList<>();
        for (String name : NAMES) {
            if (name.startsWith("stmt")) {
                changes.add(name + "=-1");
            }
        }
        changes.add("value 33=0");
        return with(changes.toArray(new String[0]));
    }

    void addTo(List<Integer> list) {
        for (int answer : answers) {
            list.add(answer);
        }
    }

    /** The answers that differ, as "name=new" in the order of their names; "" if there is none. */
    String changedTo(Seen later) {
        List<String> changed = new ArrayList<>();
        for (int i = 0; i < answers.length; i++) {
            if (answers[i] != later.answers[i]) {
                changed.add(NAMES.get(i) + "=" + later.answers[i]);
            }
        }
        return String.join(", ", changed);
    }
}

import java.util.concurrent.Callable;

/** What all calls that look answer in a program, exceptions included, as one text. */
final class Looks {
    private final FormRiver r;
    private final StringBuilder text = new StringBuilder();

    private Looks(FormRiver r) {
        this.r = r;
    }

    static String of(FormRiver r) {
        Looks looks = new Looks(r);
        looks.lookAtForms();
        looks.lookAtRecords();
        for (int submission = 0; looks.isThere(submission); submission++) {
            looks.lookAt(submission);
        }
        return looks.text.toString();
    }

    /** Returns where two looks differ, with what was looked at there. */
    static String difference(String want, String got) {
        String[] wanted = want.split("\n");
        String[] gotten = got.split("\n");
        for (int i = 0; i < Math.min(wanted.length, gotten.length); i++) {
            if (!wanted[i].equals(gotten[i])) {
                return wanted[i] + " became " + gotten[i];
            }
        }
        return wanted.length + " lines became " + gotten.length;
    }

    private void lookAtForms() {
        note("day", r::day);
        note("acceptedShare", r::acceptedShare);
        for (int i = 0; i < 3; i++) {
            int form = i;
            note("present " + form, () -> r.present(form));
        }
        for (int i = 0; i < 6; i++) {
            for (int j = 0; note("waitingAt " + i + " " + j, waitingAt(i, j)); j++) {
                continue;
            }
        }
    }

    private Callable<?> waitingAt(int desk, int rank) {
        return () -> r.waitingAt(desk, rank);
    }

    private void lookAtRecords() {
        for (int i = 0; i < 16; i++) {
            int meaning = i;
            note("owner " + meaning, () -> r.owner(meaning));
            note("total " + meaning, () -> r.total(meaning));
            note("totalAnew " + meaning, () -> r.totalAnew(meaning));
            note("counted " + meaning, () -> r.counted(meaning));
            note("meanValue " + meaning, () -> r.meanValue(meaning));
            for (int j = 0; j < 6; j++) {
                int person = j;
                note("record " + person + " " + meaning, () -> r.record(person, meaning));
                note("recordAnew " + person + " " + meaning, () -> r.recordAnew(person, meaning));
                note("source " + person + " " + meaning, () -> r.source(person, meaning));
            }
        }
        for (int i = 0; i < 6; i++) {
            int person = i;
            note("isSound " + person, () -> r.isSound(person));
        }
    }

    private boolean isThere(int submission) {
        return note("state " + submission, () -> r.state(submission));
    }

    private void lookAt(int submission) {
        note("stage " + submission, () -> r.stage(submission));
        note("lastDay " + submission, () -> r.lastDay(submission));
        for (int i = 0; i < 6; i++) {
            int desk = i;
            note("waits " + submission + " " + desk, () -> r.waits(submission, desk));
        }
        for (int i = 0; i < 8; i++) {
            int question = i;
            String of = " " + submission + " " + question;
            if (note("isAsked" + of, () -> r.isAsked(submission, question))) {
                note("value" + of, () -> r.value(submission, question));
                note("answers" + of, () -> r.answers(submission, question));
            }
            if (!note("carried" + of, () -> r.carried(submission, question))) {
                note("reason" + of, () -> r.reason(submission, question));
                note("root" + of, () -> r.root(submission, question));
                note("rootVersion" + of, () -> r.rootVersion(submission, question));
                note("causes" + of, () -> r.causes(submission, question));
            }
        }
    }

    /** Returns whether the call answers. */
    private boolean note(String name, Callable<?> call) {
        boolean answers = true;
        text.append(name).append(": ");
        try {
            text.append(call.call());
        } catch (Exception e) {
            text.append(e.getClass().getSimpleName()).append(Checks.isThrownByProgram(e) ? "" : " by the machine");
            answers = false;
        }
        text.append('\n');
        return answers;
    }
}

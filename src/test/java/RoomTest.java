import com.sun.management.ThreadMXBean;
import java.lang.management.ManagementFactory;

/** The room of LANGUAGE.md, rule 12: what a run with all forms and submissions makes, and that looking makes nothing. */
public final class RoomTest {
    /** What a run may make, far below 600,000 objects and 7.3 million fields and elements. */
    private static final long MOST_BYTES = 400_000;

    private static int calls;

    public static void main(String[] args) {
        if (!(ManagementFactory.getThreadMXBean() instanceof ThreadMXBean threads)
                || !threads.isThreadAllocatedMemorySupported()) {
            System.out.println("this machine does not count what is made");
            return;
        }
        // Once before it counts, so that the machine has made its own things.
        look(greatestRun());
        threads.getCurrentThreadAllocatedBytes();
        calls = 0;
        long before = threads.getCurrentThreadAllocatedBytes();
        FormRiver r = greatestRun();
        long made = threads.getCurrentThreadAllocatedBytes() - before;
        System.out.println(calls + " calls make " + made + " bytes");
        Checks.check(made < MOST_BYTES, "less than " + MOST_BYTES, "" + made);
        long beforeLooking = threads.getCurrentThreadAllocatedBytes();
        look(r);
        long madeByLooking = threads.getCurrentThreadAllocatedBytes() - beforeLooking;
        // The counting itself may make a little.
        Checks.check(madeByLooking < 200, "nothing made", madeByLooking + " bytes");
        Checks.end();
    }

    /** Twenty-four accepted submissions of the first version, carried through four; two more forms with four each. */
    private static FormRiver greatestRun() {
        FormRiver r = new FormRiver();
        int[] questions = {8, 7, 1};
        for (int form = 0; form < 3; form++) {
            r.addForm();
            for (int version = 0; version < 4; version++) {
                fillDraft(r, form, version, questions[form]);
                r.publish(form);
                calls += 2;
                if (form == 0 && version == 0) {
                    acceptAll(r);
                }
                if (version < 3) {
                    r.addVersion(form);
                }
            }
        }
        return r;
    }

    private static void fillDraft(FormRiver r, int form, int version, int questions) {
        for (int question = 0; question < questions; question++) {
            r.addQuestion(form, 8 * form - form / 2 + question, 0, 99, 4);
            if (version > 0) {
                r.setMap(form, question, question, '=', 0);
                calls++;
            }
            calls++;
        }
        for (int leg = 0; leg < 6; leg++) {
            r.addLeg(form, leg % 3, leg, 0, 99, 0);
            calls++;
        }
    }

    private static void acceptAll(FormRiver r) {
        for (int submission = 0; submission < 24; submission++) {
            r.start(submission % 6, 0);
            for (int question = 0; question < 8; question++) {
                r.answer(submission, question, submission);
            }
            r.submit(submission);
            calls += 10;
        }
    }

    private static void look(FormRiver r) {
        long sum = r.day() + (r.acceptedShare() > 0 ? 1 : 0);
        for (int person = 0; person < 6; person++) {
            sum += r.isSound(person) ? 1 : 0;
            sum += r.recordAnew(person, 0) + r.record(person, 0) + r.source(person, 0);
        }
        for (int meaning = 0; meaning < 16; meaning++) {
            sum += r.total(meaning) + r.totalAnew(meaning) + r.counted(meaning) + r.owner(meaning);
        }
        for (int submission = 0; submission < 24; submission++) {
            for (int question = 0; question < 8; question++) {
                sum += r.carried(submission, question) + r.value(submission, question) + r.answers(submission, question);
                sum += r.isAsked(submission, question) ? 1 : 0;
            }
            sum += r.state(submission) + r.lastDay(submission) + (r.waits(submission, 0) ? 1 : 0);
        }
        Checks.check(sum > 0, "a sum", "" + sum);
    }

    private RoomTest() {
    }
}

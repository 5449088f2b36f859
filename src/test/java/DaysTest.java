/** Promises 42 to 45, with what follows from days: patience, keeping and holding. */
public final class DaysTest {
    public static void main(String[] args) {
        passing();
        theLastDay();
        patience();
        patienceOverStages();
        patienceAfterSendingBack();
        patienceOfALaterStage();
        patienceBeforeKeeping();
        orderOfPatience();
        holding();
        lastDays();
        Checks.end();
    }

    private static FormRiver form() {
        FormRiver r = new FormRiver();
        r.addForm();
        r.addQuestion(0, 0, 0, 99, 1);
        return r;
    }

    private static int submitted(FormRiver r, int person, int answer) {
        int submission = r.start(person, 0);
        r.answer(submission, 0, answer);
        r.submit(submission);
        return submission;
    }

    private static void passing() {
        Checks.promise(44);
        FormRiver r = new FormRiver();
        Checks.fails(Checks.ARGUMENT, () -> r.pass(0));
        Checks.fails(Checks.ARGUMENT, () -> r.pass(-1));
        Checks.fails(Checks.ARGUMENT, () -> r.pass(61));
        Checks.fails(Checks.ARGUMENT, () -> r.pass(Integer.MAX_VALUE));
        Checks.promise(45);
        Checks.is(0, r.day());
        Checks.is(0, r.pass(60));
        Checks.is(60, r.day());
        Checks.is(0, r.pass(1));
        Checks.is(61, r.day());
    }

    private static void theLastDay() {
        Checks.promise(44);
        FormRiver r = new FormRiver();
        for (int i = 0; i < 33; i++) {
            r.pass(60);
        }
        Checks.is(1980, r.day());
        Checks.fails(Checks.ARGUMENT, () -> r.pass(21));
        Checks.is(1980, r.day());
        Checks.is(0, r.pass(20));
        Checks.is(2000, r.day());
        Checks.fails(Checks.ARGUMENT, () -> r.pass(1));
    }

    private static void patience() {
        Checks.promise(44);
        FormRiver r = form();
        r.addLeg(0, 0, 0, -1, 0, 3);
        r.addLeg(0, 0, 1, -1, 0, 5);
        r.addLeg(0, 0, 2, -1, 0, 0);
        r.publish(0);
        r.pass(4);
        submitted(r, 0, 1);
        r.pass(2);
        Checks.is(true, r.waits(0, 0));
        r.pass(1);
        Checks.is(false, r.waits(0, 0));
        Checks.is(true, r.waits(0, 1));
        r.approve(0, 2);
        Checks.is('s', r.state(0));
        r.pass(1);
        Checks.is('s', r.state(0));
        r.pass(1);
        Checks.is('a', r.state(0));
        Checks.is(109, r.lastDay(0));
        // A leg without a patience waits for ever.
        submitted(r, 0, 1);
        r.pass(60);
        r.pass(60);
        Checks.is(true, r.waits(1, 2));
        Checks.is(false, r.waits(1, 1));
    }

    /** Patience counts from the day on which a leg came, and what passes at once counts day by day. */
    private static void patienceOverStages() {
        FormRiver r = form();
        r.addLeg(0, 0, 0, -1, 0, 2);
        r.addLeg(0, 1, 0, -1, 0, 3);
        r.addLeg(0, 2, 0, 0, 50, 1);
        r.setKeeping(0, 4, -1, 0, 0);
        r.publish(0);
        submitted(r, 0, 49);
        submitted(r, 0, 50);
        r.pass(2);
        Checks.is(1, r.stage(0));
        r.pass(2);
        Checks.is('s', r.state(0));
        r.pass(1);
        Checks.is('a', r.state(0));
        Checks.is(9, r.lastDay(0));
        Checks.is(2, r.stage(1));
        Checks.is(2, r.pass(5));
        Checks.is('g', r.state(1));

        FormRiver s = form();
        s.addLeg(0, 0, 0, -1, 0, 2);
        s.addLeg(0, 1, 0, -1, 0, 3);
        s.setKeeping(0, 4, -1, 0, 0);
        s.publish(0);
        submitted(s, 0, 1);
        Checks.is(0, s.pass(8));
        Checks.is(9, s.lastDay(0));
        Checks.is(1, s.pass(60));
    }

    private static void patienceAfterSendingBack() {
        FormRiver r = form();
        r.addLeg(0, 0, 0, -1, 0, 3);
        r.addLeg(0, 0, 1, 0, 0, 2);
        r.publish(0);
        submitted(r, 0, 1);
        r.pass(2);
        Checks.is(false, r.waits(0, 1));
        r.sendBack(0, 0, 1);
        r.pass(10);
        Checks.is('r', r.state(0));
        // Approved by patience is approved, too: the leg at the desk 1 comes only for another value.
        Checks.is(1, r.submit(0));
        r.pass(2);
        Checks.is('s', r.state(0));
        r.sendBack(0, 0, 1);
        r.takeBack(0, 0);
        r.answer(0, 0, 2);
        Checks.is(2, r.submit(0));
        r.pass(2);
        Checks.is(true, r.waits(0, 0));
        Checks.is(false, r.waits(0, 1));
        r.pass(1);
        Checks.is('a', r.state(0));
    }

    /** The stage 0 is behind the submission, though the value of its leg's question is another one. */
    private static void patienceOfALaterStage() {
        FormRiver r = form();
        r.addLeg(0, 0, 0, 0, 0, 0);
        r.addLeg(0, 1, 1, -1, 0, 3);
        r.addLeg(0, 2, 2, -1, 0, 0);
        r.publish(0);
        submitted(r, 0, 1);
        r.approve(0, 0);
        r.sendBack(0, 1, 1);
        r.takeBack(0, 0);
        r.answer(0, 0, 2);
        r.submit(0);
        r.pass(3);
        Checks.is(2, r.stage(0));
        Checks.is(true, r.waits(0, 2));
        Checks.is(false, r.waits(0, 0));
    }

    /** First legs are approved, so that a replaced submission is not gone on the same day. */
    private static void patienceBeforeKeeping() {
        FormRiver r = form();
        r.addLeg(0, 0, 0, -1, 0, 10);
        r.setKeeping(0, 10, -1, 0, 0);
        r.publish(0);
        submitted(r, 0, 1);
        r.approve(0, 0);
        r.amend(0);
        r.submit(1);
        Checks.is(0, r.pass(10));
        Checks.is('o', r.state(0));
        Checks.is('a', r.state(1));
        Checks.is(1, r.value(0, 0));
        Checks.is(20, r.lastDay(1));
    }

    /** By rising numbers of submissions: the one with the greatest number is accepted last. */
    private static void orderOfPatience() {
        FormRiver r = form();
        r.addLeg(0, 0, 0, 0, 50, 3);
        r.addLeg(0, 0, 1, -1, 0, 4);
        r.publish(0);
        for (int submission = 0; submission < 3; submission++) {
            r.start(0, 0);
            r.answer(submission, 0, 60 + submission);
        }
        r.submit(2);
        r.submit(0);
        r.submit(1);
        r.pass(4);
        Checks.is('a', r.state(0));
        Checks.is(2, r.source(0, 0));
        Checks.is(62, r.record(0, 0));
    }

    private static void holding() {
        Checks.promise(42);
        FormRiver r = form();
        r.setKeeping(0, 3, -1, 0, 0);
        r.publish(0);
        Checks.fails(Checks.BOUNDS, () -> r.hold(-1, true));
        Checks.fails(Checks.BOUNDS, () -> r.hold(6, true));
        Checks.is(false, r.hold(0, true));
        Checks.is(true, r.hold(0, true));
        Checks.is(false, r.hold(5, false));
        submitted(r, 0, 1);
        submitted(r, 1, 2);
        submitted(r, 0, 3);
        Checks.is(1, r.pass(3));
        Checks.is('a', r.state(0));
        Checks.is('g', r.state(1));
        Checks.is(3, r.lastDay(0));
        Checks.is(0, r.pass(7));
        Checks.is(true, r.hold(0, false));
        // Gone only when a day comes.
        Checks.is('a', r.state(0));
        Checks.is(1, r.value(0, 0));
        Checks.is(3, r.record(0, 0));
        Checks.is(2, r.pass(1));
        Checks.is('g', r.state(0));
        Checks.is('g', r.state(2));
        Checks.is(0, r.pass(1));
    }

    private static void lastDays() {
        Checks.promise(43);
        FormRiver r = form();
        r.addQuestion(0, 1, 0, 99, 1);
        r.addComputed(0, 2, '+', 0, 1);
        r.setKeeping(0, 20, 2, 50, 400);
        r.publish(0);
        r.start(0, 0);
        Checks.fails(Checks.BOUNDS, () -> r.lastDay(-1));
        Checks.fails(Checks.BOUNDS, () -> r.lastDay(1));
        Checks.fails(Checks.STATE, () -> r.lastDay(0));
        r.answer(0, 0, 25);
        r.answer(0, 1, 24);
        r.pass(5);
        r.submit(0);
        Checks.is(25, r.lastDay(0));
        r.amend(0);
        r.takeBack(1, 1);
        r.answer(1, 1, 25);
        // A later version changes nothing for what is of this one.
        r.addVersion(0);
        r.addQuestion(0, 2, 0, 99, 1);
        r.setKeeping(0, 1, -1, 0, 0);
        r.publish(0);
        r.submit(1);
        Checks.is(425, r.lastDay(1));
        Checks.fails(Checks.STATE, () -> r.lastDay(0));
        r.start(0, 0);
        r.withdraw(2);
        Checks.fails(Checks.STATE, () -> r.lastDay(2));
        r.pass(59);
        for (int i = 0; i < 6; i++) {
            Checks.is(0, r.pass(60));
        }
        Checks.is(424, r.day());
        Checks.is(1, r.pass(1));
        Checks.fails(Checks.STATE, () -> r.lastDay(1));
    }

    private DaysTest() {
    }
}

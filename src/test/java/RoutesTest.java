/** Promises 19 to 23 and 28 to 30: desks, stages, sending back, rejecting and withdrawing. */
public final class RoutesTest {
    public static void main(String[] args) {
        approving();
        twoLegsAtOneDesk();
        stagesWithoutLegs();
        sendingBack();
        changingWhatWasSentBack();
        emptyQuestionsCanBeChanged();
        comingAgain();
        comingAgainForAnEarlierValue();
        sentBackFromALaterStage();
        rejecting();
        withdrawing();
        stages();
        waiting();
        ranks();
        Checks.end();
    }

    /** A form with a plain question 0 (0 to 99) and two more, 1 and 2, of which 2 is computed. */
    private static FormRiver form() {
        FormRiver r = new FormRiver();
        r.addForm();
        r.addQuestion(0, 0, 0, 99, 1);
        r.addQuestion(0, 1, 0, 99, 2);
        r.addComputed(0, 2, '+', 0, 1);
        return r;
    }

    private static int submitted(FormRiver r, int person, int first, int second) {
        int submission = r.start(person, 0);
        r.answer(submission, 0, first);
        r.answer(submission, 1, second);
        r.submit(submission);
        return submission;
    }

    private static void approving() {
        Checks.promise(20);
        FormRiver r = form();
        r.addLeg(0, 0, 0, -1, 0, 0);
        r.addLeg(0, 0, 1, 2, 50, 0);
        r.addLeg(0, 2, 0, 0, 0, 0);
        r.publish(0);
        r.start(0, 0);
        Checks.fails(Checks.BOUNDS, () -> r.approve(1, 0));
        Checks.fails(Checks.BOUNDS, () -> r.approve(-1, 0));
        Checks.fails(Checks.BOUNDS, () -> r.approve(0, 6));
        Checks.fails(Checks.BOUNDS, () -> r.approve(0, -1));
        Checks.fails(Checks.STATE, () -> r.approve(0, 0));
        r.answer(0, 0, 20);
        r.answer(0, 1, 30);
        Checks.is(2, r.submit(0));
        Checks.fails(Checks.NO_ELEMENT, () -> r.approve(0, 2));
        Checks.is(1, r.approve(0, 1));
        Checks.fails(Checks.NO_ELEMENT, () -> r.approve(0, 1));
        Checks.is(1, r.approve(0, 0));
        Checks.is(2, r.stage(0));
        Checks.is(0, r.approve(0, 0));
        Checks.is('a', r.state(0));
        Checks.fails(Checks.STATE, () -> r.approve(0, 0));
        // The leg at the desk 1 is not needed for 49.
        submitted(r, 0, 20, 29);
        Checks.is(false, r.waits(1, 1));
        Checks.is(1, r.approve(1, 0));
    }

    private static void twoLegsAtOneDesk() {
        FormRiver r = form();
        r.addLeg(0, 0, 0, -1, 0, 0);
        r.addLeg(0, 0, 1, -1, 0, 0);
        r.addLeg(0, 0, 2, -1, 0, 0);
        r.publish(0);
        r.setSubstitute(0, 1);
        r.start(0, 0);
        r.answer(0, 0, 1);
        r.answer(0, 1, 1);
        Checks.is(3, r.submit(0));
        Checks.is(1, r.approve(0, 1));
        Checks.is(false, r.waits(0, 1));
        Checks.is(0, r.approve(0, 2));
    }

    private static void stagesWithoutLegs() {
        FormRiver r = form();
        r.addLeg(0, 1, 0, 0, 10, 0);
        r.addLeg(0, 2, 3, 0, 20, 0);
        r.publish(0);
        Checks.is('a', r.state(submitted(r, 0, 9, 0)));
        Checks.is(1, r.stage(submitted(r, 0, 10, 0)));
        Checks.is(0, r.approve(1, 0));
        Checks.is(1, r.stage(submitted(r, 0, 20, 0)));
        Checks.is(1, r.approve(2, 0));
        Checks.is(true, r.waits(2, 3));
        Checks.is(0, r.approve(2, 3));
    }

    private static void sendingBack() {
        Checks.promise(21);
        FormRiver r = form();
        r.addLeg(0, 0, 0, -1, 0, 0);
        r.addLeg(0, 0, 1, -1, 0, 0);
        r.addLeg(0, 0, 2, -1, 0, 0);
        r.publish(0);
        r.start(0, 0);
        Checks.fails(Checks.BOUNDS, () -> r.sendBack(1, 0, 1));
        Checks.fails(Checks.BOUNDS, () -> r.sendBack(-1, 0, 1));
        Checks.fails(Checks.BOUNDS, () -> r.sendBack(0, 6, 0));
        Checks.fails(Checks.BOUNDS, () -> r.sendBack(0, -1, 1));
        // The questions are looked at before the state.
        Checks.fails(Checks.ARGUMENT, () -> r.sendBack(0, 0, 0));
        Checks.fails(Checks.ARGUMENT, () -> r.sendBack(0, 0, 4));
        Checks.fails(Checks.ARGUMENT, () -> r.sendBack(0, 0, 7));
        Checks.fails(Checks.ARGUMENT, () -> r.sendBack(0, 0, 8));
        Checks.fails(Checks.ARGUMENT, () -> r.sendBack(0, 0, 256));
        Checks.fails(Checks.ARGUMENT, () -> r.sendBack(0, 0, -1));
        Checks.fails(Checks.ARGUMENT, () -> r.sendBack(0, 0, Integer.MIN_VALUE));
        Checks.fails(Checks.STATE, () -> r.sendBack(0, 0, 1));
        r.answer(0, 0, 1);
        r.answer(0, 1, 1);
        r.submit(0);
        Checks.fails(Checks.NO_ELEMENT, () -> r.sendBack(0, 3, 1));
        r.approve(0, 1);
        Checks.fails(Checks.NO_ELEMENT, () -> r.sendBack(0, 1, 1));
        Checks.is('s', r.state(0));
        Checks.is(2, r.sendBack(0, 0, 3));
        Checks.is('r', r.state(0));
        for (int desk = 0; desk < 6; desk++) {
            Checks.is(false, r.waits(0, desk));
        }
        Checks.fails(Checks.STATE, () -> r.sendBack(0, 0, 1));
    }

    private static void changingWhatWasSentBack() {
        Checks.promise(21);
        FormRiver r = form();
        r.addLeg(0, 0, 0, -1, 0, 0);
        r.publish(0);
        submitted(r, 0, 5, 6);
        r.sendBack(0, 0, 2);
        Checks.fails(Checks.UNSUPPORTED, () -> r.takeBack(0, 0));
        Checks.fails(Checks.UNSUPPORTED, () -> r.answer(0, 0, 1));
        Checks.fails(Checks.UNSUPPORTED, () -> r.takeBack(0, 2));
        Checks.is(2, r.answer(0, 1, 7));
        Checks.is(7, r.takeBack(0, 1));
        Checks.is(6, r.takeBack(0, 1));
        Checks.fails(Checks.UNSUPPORTED, () -> r.submit(0));
        Checks.is(1, r.answer(0, 1, 8));
        Checks.is(1, r.submit(0));
        Checks.fails(Checks.STATE, () -> r.answer(0, 1, 7));
        // What can be changed is told anew each time.
        r.sendBack(0, 0, 1);
        Checks.fails(Checks.UNSUPPORTED, () -> r.takeBack(0, 1));
        Checks.is(5, r.takeBack(0, 0));
    }

    private static void emptyQuestionsCanBeChanged() {
        FormRiver r = new FormRiver();
        r.addForm();
        r.addQuestion(0, 0, 0, 9, 1);
        r.addQuestion(0, 1, 0, 9, 4);
        r.setCondition(0, 1, 0, '>', 5);
        r.addQuestion(0, 2, 0, 9, 1);
        r.addLeg(0, 0, 0, -1, 0, 0);
        r.publish(0);
        r.start(0, 0);
        r.answer(0, 0, 1);
        r.answer(0, 2, 2);
        r.submit(0);
        r.sendBack(0, 0, 1);
        Checks.fails(Checks.UNSUPPORTED, () -> r.answer(0, 1, 3));
        r.takeBack(0, 0);
        r.answer(0, 0, 5);
        // It had no answers when the submission was sent back, so it can be changed until it is submitted.
        Checks.is(1, r.answer(0, 1, 3));
        Checks.is(2, r.answer(0, 1, 4));
        Checks.is(4, r.takeBack(0, 1));
        Checks.fails(Checks.UNSUPPORTED, () -> r.takeBack(0, 2));
        r.submit(0);
        r.sendBack(0, 0, 1);
        Checks.fails(Checks.UNSUPPORTED, () -> r.answer(0, 1, 4));
        Checks.fails(Checks.UNSUPPORTED, () -> r.takeBack(0, 1));
    }

    /** Legs at the desks 0 (always), 1 (question 0, at least 10) and 2 (always) in the stage 0. */
    private static FormRiver threeLegs() {
        FormRiver r = form();
        r.addLeg(0, 0, 0, -1, 0, 0);
        r.addLeg(0, 0, 1, 0, 10, 0);
        r.addLeg(0, 0, 2, -1, 0, 0);
        r.publish(0);
        return r;
    }

    private static void change(FormRiver r, int submission, int answer) {
        r.takeBack(submission, 0);
        r.answer(submission, 0, answer);
    }

    private static void comingAgain() {
        Checks.promise(19);
        FormRiver r = threeLegs();
        submitted(r, 0, 20, 1);
        r.approve(0, 0);
        r.approve(0, 1);
        r.sendBack(0, 2, 1);
        // The same value: only the leg that was not approved comes.
        change(r, 0, 20);
        Checks.is(1, r.submit(0));
        Checks.is(true, r.waits(0, 2));
        r.sendBack(0, 2, 1);
        change(r, 0, 21);
        Checks.is(2, r.submit(0));
        Checks.is(false, r.waits(0, 0));
        Checks.is(true, r.waits(0, 1));
        r.sendBack(0, 2, 1);
        // Not needed any more.
        change(r, 0, 9);
        Checks.is(1, r.submit(0));
        Checks.is(0, r.approve(0, 2));

        // All legs approved but one that is not needed any more: the submission is accepted at once.
        submitted(r, 0, 20, 1);
        r.approve(1, 0);
        r.approve(1, 2);
        r.sendBack(1, 1, 1);
        change(r, 1, 9);
        Checks.is(0, r.submit(1));
        Checks.is('a', r.state(1));
    }

    private static void comingAgainForAnEarlierValue() {
        FormRiver r = threeLegs();
        submitted(r, 0, 20, 1);
        r.approve(0, 1);
        r.sendBack(0, 0, 1);
        change(r, 0, 30);
        Checks.is(3, r.submit(0));
        // Sent back before the leg was approved for 30: 20 is still the value of its approval.
        r.sendBack(0, 0, 1);
        change(r, 0, 20);
        Checks.is(2, r.submit(0));
        Checks.is(false, r.waits(0, 1));
        r.sendBack(0, 0, 1);
        change(r, 0, 30);
        r.submit(0);
        r.approve(0, 1);
        r.sendBack(0, 0, 1);
        change(r, 0, 30);
        r.submit(0);
        Checks.is(false, r.waits(0, 1));
    }

    private static void sentBackFromALaterStage() {
        FormRiver r = form();
        r.addLeg(0, 0, 0, 0, 10, 0);
        r.addLeg(0, 1, 0, -1, 0, 0);
        r.addLeg(0, 1, 1, -1, 0, 0);
        r.publish(0);
        submitted(r, 0, 20, 1);
        r.approve(0, 0);
        Checks.is(2, r.sendBack(0, 0, 1));
        Checks.is(1, r.stage(0));
        change(r, 0, 50);
        // The stage 0 is behind it, though the value of its leg's question is another one.
        Checks.is(2, r.submit(0));
        Checks.is(1, r.stage(0));
        r.approve(0, 0);
        Checks.is(0, r.approve(0, 1));
    }

    private static void rejecting() {
        Checks.promise(22);
        FormRiver r = threeLegs();
        r.setSubstitute(2, 0);
        r.start(0, 0);
        Checks.fails(Checks.BOUNDS, () -> r.reject(1, 0));
        Checks.fails(Checks.BOUNDS, () -> r.reject(-1, 0));
        Checks.fails(Checks.BOUNDS, () -> r.reject(0, 6));
        Checks.fails(Checks.BOUNDS, () -> r.reject(0, -1));
        Checks.fails(Checks.STATE, () -> r.reject(0, 0));
        r.withdraw(0);
        submitted(r, 1, 20, 0);
        submitted(r, 2, 20, 0);
        submitted(r, 3, 2, 0);
        Checks.fails(Checks.NO_ELEMENT, () -> r.reject(1, 2));
        // Two legs of each wait at the desk 0, but it is the submissions that are told.
        Checks.is(2, r.reject(1, 0));
        Checks.is('x', r.state(1));
        FormRiver s = threeLegs();
        submitted(s, 1, 20, 0);
        submitted(s, 1, 20, 0);
        Checks.is(1, s.reject(1, 0));
        Checks.is(false, r.waits(1, 0));
        Checks.is(false, r.waits(1, 1));
        Checks.is(0, r.reject(2, 1));
        Checks.is(0, r.reject(3, 0));
        Checks.fails(Checks.STATE, () -> r.reject(3, 0));
        Checks.is(0.0, r.acceptedShare());
    }

    private static void withdrawing() {
        Checks.promise(23);
        FormRiver r = threeLegs();
        Checks.fails(Checks.BOUNDS, () -> r.withdraw(0));
        r.start(0, 0);
        Checks.fails(Checks.BOUNDS, () -> r.withdraw(-1));
        Checks.is('d', r.withdraw(0));
        Checks.is('x', r.state(0));
        Checks.fails(Checks.STATE, () -> r.withdraw(0));
        submitted(r, 0, 1, 1);
        Checks.is('s', r.withdraw(1));
        Checks.is(false, r.waits(1, 0));
        Checks.fails(Checks.NO_ELEMENT, () -> r.waitingAt(0, 0));
        submitted(r, 0, 1, 1);
        r.sendBack(2, 0, 1);
        Checks.is('r', r.withdraw(2));
        Checks.is(1, r.value(2, 0));
        submitted(r, 0, 1, 1);
        r.approve(3, 0);
        r.approve(3, 2);
        Checks.fails(Checks.STATE, () -> r.withdraw(3));
    }

    private static void stages() {
        Checks.promise(28);
        FormRiver r = form();
        r.addLeg(0, 0, 0, -1, 0, 0);
        r.addLeg(0, 1, 0, -1, 0, 0);
        r.addLeg(0, 2, 0, -1, 0, 0);
        r.publish(0);
        r.start(0, 0);
        Checks.fails(Checks.BOUNDS, () -> r.stage(1));
        Checks.fails(Checks.BOUNDS, () -> r.stage(-1));
        Checks.fails(Checks.STATE, () -> r.stage(0));
        r.answer(0, 0, 1);
        r.answer(0, 1, 1);
        r.submit(0);
        Checks.is(0, r.stage(0));
        r.approve(0, 0);
        Checks.is(1, r.stage(0));
        r.sendBack(0, 0, 1);
        Checks.is(1, r.stage(0));
        r.submit(0);
        r.approve(0, 0);
        Checks.is(2, r.stage(0));
        r.approve(0, 0);
        Checks.fails(Checks.STATE, () -> r.stage(0));
        submitted(r, 0, 1, 1);
        r.withdraw(1);
        Checks.fails(Checks.STATE, () -> r.stage(1));
    }

    private static void waiting() {
        Checks.promise(29);
        FormRiver r = threeLegs();
        r.start(0, 0);
        Checks.fails(Checks.BOUNDS, () -> r.waits(1, 0));
        Checks.fails(Checks.BOUNDS, () -> r.waits(-1, 0));
        Checks.fails(Checks.BOUNDS, () -> r.waits(0, 6));
        Checks.fails(Checks.BOUNDS, () -> r.waits(0, -1));
        Checks.is(false, r.waits(0, 0));
        r.answer(0, 0, 9);
        r.answer(0, 1, 1);
        r.submit(0);
        Checks.is(true, r.waits(0, 0));
        Checks.is(false, r.waits(0, 1));
        Checks.is(true, r.waits(0, 2));
        r.approve(0, 2);
        Checks.is(false, r.waits(0, 2));
    }

    private static void ranks() {
        Checks.promise(30);
        FormRiver r = form();
        r.addLeg(0, 0, 0, -1, 0, 0);
        r.addLeg(0, 0, 1, -1, 0, 0);
        r.addLeg(0, 1, 0, -1, 0, 0);
        r.publish(0);
        r.setSubstitute(1, 0);
        Checks.fails(Checks.BOUNDS, () -> r.waitingAt(6, 0));
        Checks.fails(Checks.BOUNDS, () -> r.waitingAt(-1, -1));
        Checks.fails(Checks.NO_ELEMENT, () -> r.waitingAt(0, 0));
        for (int submission = 0; submission < 4; submission++) {
            r.start(0, 0);
            r.answer(submission, 0, 1);
            r.answer(submission, 1, 1);
        }
        r.submit(2);
        r.pass(1);
        r.submit(3);
        r.submit(1);
        r.pass(1);
        r.submit(0);
        int[] order = {2, 1, 3, 0};
        for (int rank = 0; rank < 4; rank++) {
            Checks.is(order[rank], r.waitingAt(0, rank));
        }
        Checks.fails(Checks.NO_ELEMENT, () -> r.waitingAt(0, 4));
        Checks.fails(Checks.NO_ELEMENT, () -> r.waitingAt(0, -1));
        Checks.fails(Checks.NO_ELEMENT, () -> r.waitingAt(1, 0));
        // A stage that begins counts from its own day.
        r.approve(2, 0);
        r.sendBack(1, 0, 1);
        r.submit(1);
        int[] orderThen = {3, 0, 1, 2};
        for (int rank = 0; rank < 4; rank++) {
            Checks.is(orderThen[rank], r.waitingAt(0, rank));
        }
    }

    private RoutesTest() {
    }
}

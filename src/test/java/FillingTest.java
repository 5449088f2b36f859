/** Promises 14 to 19 and 24 to 27: starting, amending, answering, prefilling and submitting. */
public final class FillingTest {
    public static void main(String[] args) {
        starting();
        amending();
        amendingAgain();
        amendedIsGoneFirst();
        answering();
        takingBack();
        prefilling();
        submitting();
        states();
        lookingAtQuestions();
        valuesFollowConditions();
        Checks.end();
    }

    /** A form with a question 0, and a question 1 that is asked if it is at least 5; both have one answer at most. */
    private static FormRiver twoQuestions() {
        FormRiver r = new FormRiver();
        r.addForm();
        r.addQuestion(0, 0, -9, 9, 1);
        r.addQuestion(0, 1, 0, 20, 2);
        r.setCondition(0, 1, 0, '>', 5);
        return r;
    }

    private static void starting() {
        Checks.promise(14);
        FormRiver r = twoQuestions();
        Checks.fails(Checks.BOUNDS, () -> r.start(-1, 0));
        Checks.fails(Checks.BOUNDS, () -> r.start(6, 0));
        Checks.fails(Checks.BOUNDS, () -> r.start(0, 1));
        Checks.fails(Checks.BOUNDS, () -> r.start(0, -1));
        Checks.fails(Checks.NO_ELEMENT, () -> r.start(0, 0));
        r.publish(0);
        for (int submission = 0; submission < 24; submission++) {
            Checks.is(submission, r.start(submission % 6, 0));
            Checks.is('d', r.state(submission));
            Checks.is(0, r.answers(submission, 0));
        }
        Checks.fails(Checks.STATE, () -> r.start(0, 0));
        Checks.fails(Checks.BOUNDS, () -> r.start(0, 1));
        r.addForm();
        Checks.fails(Checks.STATE, () -> r.start(0, 1));
        Checks.fails(Checks.BOUNDS, () -> r.state(24));
    }

    private static void amending() {
        Checks.promise(15);
        FormRiver r = twoQuestions();
        r.publish(0);
        r.start(2, 0);
        Checks.fails(Checks.BOUNDS, () -> r.amend(-1));
        Checks.fails(Checks.BOUNDS, () -> r.amend(1));
        Checks.fails(Checks.STATE, () -> r.amend(0));
        r.answer(0, 0, 6);
        r.answer(0, 1, 11);
        r.answer(0, 1, 12);
        // Asked no more, the question 1 keeps its answers in the same version.
        r.takeBack(0, 0);
        r.answer(0, 0, 3);
        r.submit(0);
        Checks.is(1, r.amend(0));
        Checks.fails(Checks.STATE, () -> r.amend(0));
        Checks.fails(Checks.STATE, () -> r.amend(1));
        Checks.is('d', r.state(1));
        Checks.is(3, r.value(1, 0));
        Checks.is(2, r.answers(1, 1));
        Checks.is(12, r.takeBack(1, 1));
        Checks.is(2, r.answers(0, 1));
        Checks.is('d', r.withdraw(1));
        Checks.is(2, r.amend(0));
        Checks.is('a', r.state(0));
        r.submit(2);
        Checks.is('o', r.state(0));
        Checks.is('a', r.state(2));
        Checks.is(3, r.record(2, 0));
        Checks.is(2, r.source(2, 0));
        Checks.fails(Checks.STATE, () -> r.amend(0));
    }

    /** An amending draft is of the present version, with the answers that are carried there. */
    private static void amendingAgain() {
        FormRiver r = twoQuestions();
        r.addLeg(0, 0, 0, -1, 0, 0);
        r.publish(0);
        r.start(4, 0);
        r.answer(0, 0, 7);
        r.answer(0, 1, 8);
        r.answer(0, 1, 9);
        r.submit(0);
        r.approve(0, 0);
        r.addVersion(0);
        r.addQuestion(0, 1, 0, 99, 2);
        r.setMap(0, 0, 1, '*', 3);
        r.addQuestion(0, 5, 0, 9, 1);
        r.addQuestion(0, 0, 0, 99, 1);
        r.setMap(0, 2, 0, '=', 0);
        r.setCondition(0, 2, 1, '>', 0);
        r.addLeg(0, 0, 1, -1, 0, 0);
        r.publish(0);
        Checks.is(1, r.amend(0));
        Checks.is(2, r.answers(1, 0));
        Checks.is(51, r.value(1, 0));
        Checks.is(0, r.answers(1, 1));
        // Carried, but not asked.
        Checks.is(1, r.answers(1, 2));
        Checks.is(false, r.isAsked(1, 2));
        Checks.fails(Checks.UNSUPPORTED, () -> r.submit(1));
        Checks.is(27, r.takeBack(1, 0));
        r.answer(1, 1, 0);
        Checks.is(7, r.value(1, 2));
        r.submit(1);
        Checks.fails(Checks.STATE, () -> r.amend(0));
        r.sendBack(1, 1, 1);
        Checks.fails(Checks.STATE, () -> r.amend(0));
        r.submit(1);
        r.reject(1, 1);
        Checks.is('a', r.state(0));
        Checks.is(2, r.amend(0));
        r.withdraw(2);
        for (int submission = 3; submission < 24; submission++) {
            r.start(0, 0);
        }
        Checks.fails(Checks.STATE, () -> r.amend(0));
    }

    /** What is not accepted any more when the amending submission is accepted, is not replaced. */
    private static void amendedIsGoneFirst() {
        FormRiver r = new FormRiver();
        r.addForm();
        r.addQuestion(0, 0, 0, 9, 1);
        r.setKeeping(0, 5, -1, 0, 0);
        r.publish(0);
        r.start(0, 0);
        r.answer(0, 0, 4);
        r.submit(0);
        r.amend(0);
        Checks.is(1, r.pass(5));
        Checks.is(4, r.value(1, 0));
        r.submit(1);
        Checks.is('g', r.state(0));
        Checks.is('a', r.state(1));
        Checks.is(1, r.counted(0));
    }

    private static void answering() {
        Checks.promise(16);
        FormRiver r = twoQuestions();
        r.addComputed(0, 2, '+', 0, 0);
        r.publish(0);
        r.start(0, 0);
        Checks.fails(Checks.BOUNDS, () -> r.answer(1, 0, 0));
        Checks.fails(Checks.BOUNDS, () -> r.answer(-1, 0, 0));
        Checks.fails(Checks.BOUNDS, () -> r.answer(0, 3, 0));
        Checks.fails(Checks.BOUNDS, () -> r.answer(0, -1, 0));
        Checks.fails(Checks.UNSUPPORTED, () -> r.answer(0, 2, 0));
        Checks.fails(Checks.UNSUPPORTED, () -> r.answer(0, 1, 1000));
        Checks.fails(Checks.ARGUMENT, () -> r.answer(0, 0, 10));
        Checks.fails(Checks.ARGUMENT, () -> r.answer(0, 0, -10));
        Checks.is(1, r.answer(0, 0, 9));
        Checks.fails(Checks.ARGUMENT, () -> r.answer(0, 0, 9));
        Checks.is(1, r.answer(0, 1, 0));
        Checks.is(2, r.answer(0, 1, 20));
        Checks.fails(Checks.ARGUMENT, () -> r.answer(0, 1, 0));
        Checks.is(20, r.value(0, 1));
        r.submit(0);
        Checks.fails(Checks.STATE, () -> r.answer(0, 2, 0));
        Checks.fails(Checks.BOUNDS, () -> r.answer(0, 3, 0));
    }

    private static void takingBack() {
        Checks.promise(17);
        FormRiver r = twoQuestions();
        r.addComputed(0, 2, '+', 0, 0);
        r.publish(0);
        r.start(0, 0);
        Checks.fails(Checks.BOUNDS, () -> r.takeBack(1, 0));
        Checks.fails(Checks.BOUNDS, () -> r.takeBack(0, 3));
        Checks.fails(Checks.BOUNDS, () -> r.takeBack(0, -1));
        Checks.fails(Checks.UNSUPPORTED, () -> r.takeBack(0, 2));
        Checks.fails(Checks.NO_ELEMENT, () -> r.takeBack(0, 0));
        Checks.fails(Checks.NO_ELEMENT, () -> r.takeBack(0, 1));
        r.answer(0, 0, 5);
        r.answer(0, 1, 13);
        r.answer(0, 1, 17);
        Checks.is(5, r.takeBack(0, 0));
        // Not asked, but its answers can be taken back, the last one first.
        Checks.is(17, r.takeBack(0, 1));
        Checks.is(13, r.takeBack(0, 1));
        Checks.fails(Checks.NO_ELEMENT, () -> r.takeBack(0, 1));
        r.answer(0, 0, 0);
        r.submit(0);
        Checks.fails(Checks.STATE, () -> r.takeBack(0, 2));
        Checks.fails(Checks.STATE, () -> r.takeBack(0, 0));
    }

    private static void prefilling() {
        Checks.promise(18);
        FormRiver r = new FormRiver();
        r.addForm();
        r.addQuestion(0, 0, 0, 9, 1);
        r.addQuestion(0, 1, 0, 20, 2);
        r.setCondition(0, 1, 0, '>', 5);
        r.addQuestion(0, 2, 0, 9, 2);
        r.addComputed(0, 3, '+', 0, 2);
        r.addQuestion(0, 4, 0, 9, 1);
        r.publish(0);
        Checks.fails(Checks.BOUNDS, () -> r.prefill(0));
        r.start(1, 0);
        Checks.is(0, r.prefill(0));
        r.answer(0, 0, 6);
        r.answer(0, 1, 15);
        r.answer(0, 1, 3);
        r.answer(0, 2, 9);
        r.answer(0, 2, 8);
        r.answer(0, 4, 2);
        r.submit(0);
        Checks.fails(Checks.STATE, () -> r.prefill(0));
        r.start(1, 0);
        r.answer(1, 4, 0);
        // The question 0 opens the question 1; the value of the question 2 is out of range; 4 has an answer.
        Checks.is(2, r.prefill(1));
        Checks.is(6, r.value(1, 0));
        Checks.is(1, r.answers(1, 1));
        Checks.is(18, r.value(1, 1));
        Checks.is(0, r.answers(1, 2));
        Checks.is(0, r.value(1, 4));
        Checks.is(0, r.prefill(1));
        Checks.fails(Checks.BOUNDS, () -> r.prefill(-1));
        // Another person has no record.
        r.start(2, 0);
        Checks.is(0, r.prefill(2));
        // Not asked, so not prefilled.
        r.start(1, 0);
        r.answer(3, 0, 4);
        Checks.is(1, r.prefill(3));
        Checks.is(0, r.answers(3, 1));
        sentBackIsNotPrefilled();
    }

    private static void sentBackIsNotPrefilled() {
        FormRiver r = new FormRiver();
        r.addForm();
        r.addQuestion(0, 0, 0, 9, 1);
        r.addLeg(0, 0, 0, -1, 0, 0);
        r.publish(0);
        r.start(0, 0);
        r.answer(0, 0, 1);
        r.submit(0);
        Checks.fails(Checks.STATE, () -> r.prefill(0));
        r.sendBack(0, 0, 1);
        Checks.fails(Checks.STATE, () -> r.prefill(0));
    }

    private static void submitting() {
        Checks.promise(19);
        FormRiver r = twoQuestions();
        r.addLeg(0, 1, 0, 1, 3, 0);
        r.addLeg(0, 1, 1, -1, 0, 0);
        r.addLeg(0, 1, 2, 0, 6, 0);
        r.publish(0);
        r.start(0, 0);
        Checks.fails(Checks.BOUNDS, () -> r.submit(1));
        Checks.fails(Checks.BOUNDS, () -> r.submit(-1));
        Checks.fails(Checks.UNSUPPORTED, () -> r.submit(0));
        r.answer(0, 0, 5);
        Checks.fails(Checks.UNSUPPORTED, () -> r.submit(0));
        Checks.is('d', r.state(0));
        r.answer(0, 1, 3);
        Checks.is(2, r.submit(0));
        Checks.is('s', r.state(0));
        Checks.is(1, r.stage(0));
        Checks.is(true, r.waits(0, 0));
        Checks.is(true, r.waits(0, 1));
        Checks.is(false, r.waits(0, 2));
        Checks.fails(Checks.STATE, () -> r.submit(0));
        // A question that is not asked needs no answers.
        r.start(0, 0);
        r.answer(1, 0, 4);
        Checks.is(1, r.submit(1));
        r.approve(0, 0);
        r.approve(0, 1);
        Checks.fails(Checks.STATE, () -> r.submit(0));
        r.withdraw(1);
        Checks.fails(Checks.STATE, () -> r.submit(1));

        FormRiver s = new FormRiver();
        s.addForm();
        s.addQuestion(0, 0, 0, 9, 1);
        s.addLeg(0, 2, 0, 0, 5, 0);
        s.publish(0);
        s.start(0, 0);
        s.answer(0, 0, 4);
        Checks.is(0, s.submit(0));
        Checks.is('a', s.state(0));
    }

    private static void states() {
        Checks.promise(24);
        FormRiver r = twoQuestions();
        r.addLeg(0, 0, 0, -1, 0, 0);
        r.publish(0);
        Checks.fails(Checks.BOUNDS, () -> r.state(0));
        r.start(0, 0);
        Checks.fails(Checks.BOUNDS, () -> r.state(-1));
        Checks.fails(Checks.BOUNDS, () -> r.state(1));
        Checks.is('d', r.state(0));
        r.answer(0, 0, 1);
        r.submit(0);
        Checks.is('s', r.state(0));
        r.sendBack(0, 0, 1);
        Checks.is('r', r.state(0));
        r.submit(0);
        r.approve(0, 0);
        Checks.is('a', r.state(0));
        r.amend(0);
        r.submit(1);
        r.approve(1, 0);
        Checks.is('o', r.state(0));
        r.start(0, 0);
        r.withdraw(2);
        Checks.is('x', r.state(2));
        r.pass(60);
        r.pass(40);
        Checks.is('g', r.state(1));
        // Only accepted submissions are kept for a time: a replaced one stays replaced.
        Checks.is('o', r.state(0));
        Checks.is(1, r.value(0, 0));
    }

    private static void lookingAtQuestions() {
        FormRiver r = twoQuestions();
        r.addComputed(0, 2, '-', 0, 1);
        r.publish(0);
        r.start(0, 0);
        Checks.promise(25);
        Checks.fails(Checks.BOUNDS, () -> r.isAsked(1, 0));
        Checks.fails(Checks.BOUNDS, () -> r.isAsked(-1, 0));
        Checks.fails(Checks.BOUNDS, () -> r.isAsked(0, 3));
        Checks.fails(Checks.BOUNDS, () -> r.isAsked(0, -1));
        Checks.is(true, r.isAsked(0, 0));
        Checks.is(false, r.isAsked(0, 1));
        Checks.is(true, r.isAsked(0, 2));
        r.answer(0, 0, 5);
        Checks.is(true, r.isAsked(0, 1));

        Checks.promise(26);
        Checks.fails(Checks.BOUNDS, () -> r.value(1, 0));
        Checks.fails(Checks.BOUNDS, () -> r.value(0, 3));
        Checks.fails(Checks.BOUNDS, () -> r.value(0, -1));
        Checks.fails(Checks.NO_ELEMENT, () -> r.value(0, 1));
        Checks.fails(Checks.NO_ELEMENT, () -> r.value(0, 2));
        Checks.is(5, r.value(0, 0));
        r.answer(0, 1, 2);
        r.answer(0, 1, 4);
        Checks.is(6, r.value(0, 1));
        Checks.is(-1, r.value(0, 2));

        Checks.promise(27);
        Checks.fails(Checks.BOUNDS, () -> r.answers(1, 0));
        Checks.fails(Checks.BOUNDS, () -> r.answers(0, 3));
        Checks.fails(Checks.BOUNDS, () -> r.answers(0, -1));
        Checks.is(1, r.answers(0, 0));
        Checks.is(2, r.answers(0, 1));
        Checks.is(0, r.answers(0, 2));
        r.takeBack(0, 0);
        Checks.is(0, r.answers(0, 0));
        Checks.is(2, r.answers(0, 1));
    }

    private static void valuesFollowConditions() {
        Checks.promise(26);
        FormRiver r = twoQuestions();
        r.addQuestion(0, 2, 0, 9, 1);
        r.setCondition(0, 2, 1, '<', 100);
        r.publish(0);
        r.start(0, 0);
        r.answer(0, 0, 6);
        r.answer(0, 1, 1);
        r.answer(0, 2, 7);
        Checks.is(7, r.value(0, 2));
        r.takeBack(0, 0);
        // A condition on a question without a value is not fulfilled, and so on down the row.
        Checks.fails(Checks.NO_ELEMENT, () -> r.value(0, 1));
        Checks.fails(Checks.NO_ELEMENT, () -> r.value(0, 2));
        Checks.is(false, r.isAsked(0, 2));
        Checks.is(1, r.answers(0, 2));
        r.answer(0, 0, 5);
        Checks.is(7, r.value(0, 2));
    }

    private FillingTest() {
    }
}

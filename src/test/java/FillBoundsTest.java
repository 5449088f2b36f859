/** The boundary cases of the promises 14 to 19 and 24 to 27: submissions and their answers. */
public final class FillBoundsTest {
    public static void main(String[] args) {
        rangesOfStarting();
        twentyFourSubmissionsAtMost();
        orderForStarting();
        amendingByStates();
        amendingWhileAmended();
        amendingUpToTwentyFour();
        submissionsThatAreNotThere();
        questionsThatAreNotThere();
        rangesOfAnswers();
        answersUpToTheMost();
        answeringByStates();
        orderForAnswering();
        takingBackByStates();
        takingBackUntilEmpty();
        prefillingByStates();
        prefillingWithinRanges();
        prefillingAllOrNothing();
        prefillingByRisingNumbers();
        submittingByStates();
        submittingWithoutAnswers();
        submittingToNoLegOrSix();
        conditionsAtTheirBounds();
        conditionsOnNothing();
        sumsOfAnswers();
        computedUpToTheLimits();
        questionsOfTheOwnVersion();
        goneSubmissionsAreEmpty();
        Checks.end();
    }

    private static Twin newForm() {
        return new Twin().is(0, r -> r.addForm());
    }

    /** A form with two plain questions, 0 to 99, a computed one and a leg, published. */
    private static Twin form() {
        Twin t = newForm().is(0, r -> r.addQuestion(0, 0, 0, 99, 1)).is(1, r -> r.addQuestion(0, 1, 0, 99, 3));
        t.is(2, r -> r.addComputed(0, 2, '+', 0, 1)).is(1, r -> r.addLeg(0, 0, 0, -1, 0, 0));
        return t.is(100, r -> r.setKeeping(0, 5, -1, 0, 0)).is(0, r -> r.publish(0));
    }

    /** Starts, answers and submits a submission. */
    private static Twin submitted(Twin t, int submission) {
        t.is(submission, r -> r.start(submission % 6, 0)).is(1, r -> r.answer(submission, 0, 50));
        return t.is(1, r -> r.answer(submission, 1, 7)).is(1, r -> r.submit(submission));
    }

    /** Submissions in all states: 0 'd', 1 's', 2 'r' for the question 1, 3 'x', 4 'a', 5 'o', 6 'a' and 7 'g'. */
    private static Twin allStates() {
        Twin t = form().is(0, r -> r.start(0, 0)).is(1, r -> r.answer(0, 0, 3));
        for (int submission = 1; submission < 6; submission++) {
            submitted(t, submission);
        }
        t.is(1, r -> r.sendBack(2, 0, 2)).is(3, r -> r.reject(3, 0)).is(0, r -> r.approve(5, 0));
        t.is(6, r -> r.amend(5)).is(1, r -> r.submit(6)).is(0, r -> r.approve(6, 0));
        submitted(t, 7).is(0, r -> r.approve(7, 0)).is(false, r -> r.hold(5, true)).is(1, r -> r.pass(5));
        t.is(true, r -> r.hold(5, false)).is(0, r -> r.approve(4, 0));
        String states = "dsrxaoag";
        Checks.promise(24);
        for (int i = 0; i < states.length(); i++) {
            int submission = i;
            t.is(states.charAt(i), r -> r.state(submission));
        }
        return t;
    }

    private static void rangesOfStarting() {
        Checks.promise(14);
        Twin.range(0, 5, Twin.BOUNDS, FillBoundsTest::form, 0, person -> r -> r.start(person, 0));
        form().outside(0, 0, Twin.BOUNDS, form -> r -> r.start(0, form)).goesOnAlike();
        Twin t = form().is(1, r -> r.addForm()).is(2, r -> r.addForm()).is(0, r -> r.addQuestion(2, 9, 0, 9, 1));
        t.is(0, r -> r.publish(2)).outside(0, 2, Twin.BOUNDS, form -> r -> r.start(5, form));
        t.is(0, r -> r.start(5, 2)).fails(Twin.NO_ELEMENT, r -> r.start(5, 1)).goesOnAlike();
    }

    private static void twentyFourSubmissionsAtMost() {
        Checks.promise(14);
        Twin t = form().is(1, r -> r.addForm());
        for (int i = 0; i < 24; i++) {
            int submission = i;
            t.fails(Twin.BOUNDS, r -> r.state(submission)).is(submission, r -> r.start(submission % 6, 0));
            t.is('d', r -> r.state(submission)).is(0, r -> r.answers(submission, 1));
        }
        t.fails(Twin.STATE, r -> r.start(0, 0)).fails(Twin.STATE, r -> r.start(5, 0));
        t.fails(Twin.BOUNDS, r -> r.state(24));
        // Those that are over count, too.
        t.is('d', r -> r.withdraw(23)).fails(Twin.STATE, r -> r.start(0, 0)).goesOnAlike();
    }

    private static void orderForStarting() {
        Checks.promise(14);
        Twin t = form().is(1, r -> r.addForm()).fails(Twin.NO_ELEMENT, r -> r.start(0, 1));
        t.fails(Twin.BOUNDS, r -> r.start(-1, 1)).fails(Twin.BOUNDS, r -> r.start(6, 1));
        for (int i = 0; i < 24; i++) {
            int submission = i;
            t.is(submission, r -> r.start(0, 0));
        }
        t.fails(Twin.STATE, r -> r.start(0, 1)).fails(Twin.BOUNDS, r -> r.start(6, 0)).fails(Twin.BOUNDS, r -> r.start(-1, 0));
        t.fails(Twin.BOUNDS, r -> r.start(0, 2)).fails(Twin.BOUNDS, r -> r.start(0, -1)).goesOnAlike();
    }

    private static void amendingByStates() {
        Checks.promise(15);
        Twin t = allStates();
        Checks.promise(15);
        for (int submission : new int[] {0, 1, 2, 3, 5, 7}) {
            t.fails(Twin.STATE, r -> r.amend(submission));
        }
        t.is(8, r -> r.amend(4)).is(9, r -> r.amend(6)).is('d', r -> r.state(8)).is(50, r -> r.value(9, 0));
        t.fails(Twin.STATE, r -> r.amend(8)).goesOnAlike();
    }

    private static void amendingWhileAmended() {
        Checks.promise(15);
        Twin t = allStates().is(8, r -> r.amend(4)).fails(Twin.STATE, r -> r.amend(4));
        t.is(1, r -> r.submit(8)).fails(Twin.STATE, r -> r.amend(4)).is(1, r -> r.sendBack(8, 0, 1));
        t.fails(Twin.STATE, r -> r.amend(4)).is('r', r -> r.withdraw(8)).is(9, r -> r.amend(4));
        t.is('d', r -> r.withdraw(9)).is(10, r -> r.amend(4)).is(1, r -> r.submit(10)).is(1, r -> r.reject(10, 0));
        t.is(11, r -> r.amend(4)).is(1, r -> r.submit(11)).is(0, r -> r.approve(11, 0)).is('o', r -> r.state(4));
        t.fails(Twin.STATE, r -> r.amend(4)).is(12, r -> r.amend(11)).goesOnAlike();
    }

    private static void amendingUpToTwentyFour() {
        Checks.promise(15);
        Twin t = allStates();
        for (int i = 8; i < 23; i++) {
            int submission = i;
            t.is(submission, r -> r.start(0, 0));
        }
        t.is(23, r -> r.amend(4)).fails(Twin.STATE, r -> r.amend(6)).fails(Twin.BOUNDS, r -> r.amend(24));
        t.is('d', r -> r.withdraw(23)).fails(Twin.STATE, r -> r.amend(4)).goesOnAlike();
    }

    /** The submission is looked at before all else: each call that can have other faults has them, too. */
    private static void submissionsThatAreNotThere() {
        Twin full = allStates();
        for (int i = 8; i < 24; i++) {
            full.does(r -> r.start(0, 0));
        }
        Twin[] twins = {form(), submitted(form(), 0), allStates(), full};
        int[] lasts = {-1, 0, 7, 23};
        for (int i = 0; i < twins.length; i++) {
            Twin t = twins[i];
            int last = lasts[i];
            Checks.promise(15);
            t.outside(0, last, Twin.BOUNDS, submission -> r -> r.amend(submission));
            Checks.promise(16);
            t.outside(0, last, Twin.BOUNDS, submission -> r -> r.answer(submission, 9, 1000));
            Checks.promise(17);
            t.outside(0, last, Twin.BOUNDS, submission -> r -> r.takeBack(submission, -1));
            Checks.promise(18);
            t.outside(0, last, Twin.BOUNDS, submission -> r -> r.prefill(submission));
            Checks.promise(19);
            t.outside(0, last, Twin.BOUNDS, submission -> r -> r.submit(submission));
            Checks.promise(20);
            t.outside(0, last, Twin.BOUNDS, submission -> r -> r.approve(submission, 6));
            Checks.promise(21);
            t.outside(0, last, Twin.BOUNDS, submission -> r -> r.sendBack(submission, -1, 0));
            Checks.promise(22);
            t.outside(0, last, Twin.BOUNDS, submission -> r -> r.reject(submission, 0));
            Checks.promise(23);
            t.outside(0, last, Twin.BOUNDS, submission -> r -> r.withdraw(submission));
            Checks.promise(24);
            t.outside(0, last, Twin.BOUNDS, submission -> r -> r.state(submission));
            Checks.promise(25);
            t.outside(0, last, Twin.BOUNDS, submission -> r -> r.isAsked(submission, 0));
            Checks.promise(26);
            t.outside(0, last, Twin.BOUNDS, submission -> r -> r.value(submission, 9));
            Checks.promise(27);
            t.outside(0, last, Twin.BOUNDS, submission -> r -> r.answers(submission, 0)).goesOnAlike();
        }
    }

    /** No such question comes before the state of the submission, and before what the answer is. */
    private static void questionsThatAreNotThere() {
        Twin t = allStates();
        for (int i = 0; i < 8; i++) {
            int submission = i;
            for (int question : new int[] {Integer.MIN_VALUE, -2, -1, 3, 4, 7, 8, 32, Integer.MAX_VALUE}) {
                Checks.promise(16);
                t.fails(Twin.BOUNDS, r -> r.answer(submission, question, 0));
                t.fails(Twin.BOUNDS, r -> r.answer(submission, question, 1000));
                Checks.promise(17);
                t.fails(Twin.BOUNDS, r -> r.takeBack(submission, question));
                Checks.promise(25);
                t.fails(Twin.BOUNDS, r -> r.isAsked(submission, question));
                Checks.promise(26);
                t.fails(Twin.BOUNDS, r -> r.value(submission, question));
                Checks.promise(27);
                t.fails(Twin.BOUNDS, r -> r.answers(submission, question));
            }
        }
        t.goesOnAlike();
    }

    private static void rangesOfAnswers() {
        Checks.promise(16);
        int[][] ranges = {{-999, 999}, {0, 0}, {5, 5}, {-999, -999}, {999, 999}, {-3, 4}, {1, 2}, {-2, -1}};
        for (int[] range : ranges) {
            Twin.range(range[0], range[1], Twin.ARGUMENT, () -> newForm()
                    .is(0, r -> r.addQuestion(0, 0, range[0], range[1], 2)).is(0, r -> r.publish(0))
                    .is(0, r -> r.start(0, 0)), 1, answer -> r -> r.answer(0, 0, answer));
        }
    }

    private static void answersUpToTheMost() {
        for (int i = 1; i < 5; i++) {
            int most = i;
            Twin t = newForm().is(0, r -> r.addQuestion(0, 0, 0, 9, most)).is(0, r -> r.publish(0));
            t.is(0, r -> r.start(0, 0));
            for (int j = 1; j <= most; j++) {
                int count = j;
                Checks.promise(16);
                t.is(count, r -> r.answer(0, 0, count));
                Checks.promise(27);
                t.is(count, r -> r.answers(0, 0));
            }
            Checks.promise(16);
            t.fails(Twin.ARGUMENT, r -> r.answer(0, 0, 0)).fails(Twin.ARGUMENT, r -> r.answer(0, 0, 10));
            Checks.promise(17);
            t.is(most, r -> r.takeBack(0, 0));
            Checks.promise(16);
            t.is(most, r -> r.answer(0, 0, 9)).fails(Twin.ARGUMENT, r -> r.answer(0, 0, 9)).goesOnAlike();
        }
    }

    private static void answeringByStates() {
        Twin t = allStates();
        Checks.promise(16);
        for (int submission : new int[] {1, 3, 4, 5, 6, 7}) {
            t.fails(Twin.STATE, r -> r.answer(submission, 1, 5));
        }
        // Sent back for the question 1 only.
        t.is(1, r -> r.answer(0, 1, 5)).is(2, r -> r.answer(2, 1, 5)).fails(Twin.UNSUPPORTED, r -> r.answer(2, 0, 5));
        t.fails(Twin.UNSUPPORTED, r -> r.answer(2, 2, 5)).goesOnAlike();
    }

    private static void orderForAnswering() {
        Twin t = allStates();
        Checks.promise(16);
        for (int submission : new int[] {1, 3, 4, 5, 6, 7}) {
            t.fails(Twin.STATE, r -> r.answer(submission, 2, 5)).fails(Twin.STATE, r -> r.answer(submission, 0, 100));
            t.fails(Twin.STATE, r -> r.answer(submission, 2, -1)).fails(Twin.BOUNDS, r -> r.answer(submission, 3, 100));
        }
        // Computed, and cannot be changed: both before what the answer is, and how many there are.
        t.fails(Twin.UNSUPPORTED, r -> r.answer(0, 2, 5)).fails(Twin.UNSUPPORTED, r -> r.answer(0, 2, 100));
        t.fails(Twin.UNSUPPORTED, r -> r.answer(2, 0, 100)).fails(Twin.UNSUPPORTED, r -> r.answer(2, 0, -1));
        t.fails(Twin.ARGUMENT, r -> r.answer(0, 0, 3)).fails(Twin.ARGUMENT, r -> r.answer(0, 1, 100)).goesOnAlike();
        Twin s = newForm().is(0, r -> r.addQuestion(0, 0, 0, 9, 1)).is(1, r -> r.addQuestion(0, 1, 0, 9, 1));
        s.is(1, r -> r.setCondition(0, 1, 0, '>', 5)).is(0, r -> r.publish(0)).is(0, r -> r.start(0, 0));
        // Not asked: before what the answer is, and how many there are.
        s.fails(Twin.UNSUPPORTED, r -> r.answer(0, 1, 5)).fails(Twin.UNSUPPORTED, r -> r.answer(0, 1, 10));
        s.is(1, r -> r.answer(0, 0, 5)).is(1, r -> r.answer(0, 1, 5)).fails(Twin.ARGUMENT, r -> r.answer(0, 1, 5));
        s.is(5, r -> r.takeBack(0, 0)).fails(Twin.UNSUPPORTED, r -> r.answer(0, 1, 5)).goesOnAlike();
    }

    private static void takingBackByStates() {
        Twin t = allStates();
        Checks.promise(17);
        for (int submission : new int[] {1, 3, 4, 5, 6, 7}) {
            t.fails(Twin.STATE, r -> r.takeBack(submission, 0)).fails(Twin.STATE, r -> r.takeBack(submission, 2));
        }
        t.fails(Twin.UNSUPPORTED, r -> r.takeBack(0, 2)).fails(Twin.UNSUPPORTED, r -> r.takeBack(2, 2));
        t.fails(Twin.UNSUPPORTED, r -> r.takeBack(2, 0)).fails(Twin.NO_ELEMENT, r -> r.takeBack(0, 1));
        t.is(3, r -> r.takeBack(0, 0)).is(7, r -> r.takeBack(2, 1)).fails(Twin.NO_ELEMENT, r -> r.takeBack(2, 1));
        t.fails(Twin.NO_ELEMENT, r -> r.takeBack(0, 0)).goesOnAlike();
    }

    private static void takingBackUntilEmpty() {
        Checks.promise(17);
        Twin t = newForm().is(0, r -> r.addQuestion(0, 0, -9, 9, 4)).is(0, r -> r.publish(0)).is(0, r -> r.start(0, 0));
        int[] answers = {-9, 9, 0, 3};
        for (int times = 0; times < 2; times++) {
            for (int i = 0; i < 4; i++) {
                int count = i;
                t.is(count + 1, r -> r.answer(0, 0, answers[count]));
            }
            for (int i = 3; i >= 0; i--) {
                int count = i;
                t.is(answers[count], r -> r.takeBack(0, 0)).is(count, r -> r.answers(0, 0));
            }
            t.fails(Twin.NO_ELEMENT, r -> r.takeBack(0, 0)).fails(Twin.NO_ELEMENT, r -> r.value(0, 0));
        }
        t.goesOnAlike();
    }

    private static void prefillingByStates() {
        Twin t = allStates();
        Checks.promise(18);
        for (int submission = 1; submission < 8; submission++) {
            int number = submission;
            t.fails(Twin.STATE, r -> r.prefill(number));
        }
        // The person 0 has no record.
        t.is(0, r -> r.prefill(0)).is(8, r -> r.start(5, 0)).is(2, r -> r.prefill(8)).goesOnAlike();
    }

    /** A form with one question with three answers at most, which is accepted with these and then prefilled. */
    private static Twin prefilled(int least, int greatest, int want, int... answers) {
        Twin t = newForm().is(0, r -> r.addQuestion(0, 0, least, greatest, 3)).is(0, r -> r.publish(0));
        t.is(0, r -> r.start(3, 0));
        for (int i = 0; i < answers.length; i++) {
            int count = i;
            t.is(count + 1, r -> r.answer(0, 0, answers[count]));
        }
        return t.is(0, r -> r.submit(0)).is(1, r -> r.start(3, 0)).is(want, r -> r.prefill(1)).is(want, r -> r.answers(1, 0));
    }

    private static void prefillingWithinRanges() {
        Checks.promise(18);
        prefilled(-10, 10, 1, 9).goesOnAlike();
        prefilled(-10, 10, 1, 9, 1).is(10, r -> r.value(1, 0)).goesOnAlike();
        prefilled(-10, 10, 0, 9, 2).fails(Twin.NO_ELEMENT, r -> r.value(1, 0)).goesOnAlike();
        prefilled(-10, 10, 1, -9, -1).is(-10, r -> r.value(1, 0)).goesOnAlike();
        prefilled(-10, 10, 0, -9, -2).goesOnAlike();
        prefilled(-10, 10, 1, 7, -7).is(0, r -> r.value(1, 0)).goesOnAlike();
        prefilled(5, 10, 1, 5, 5).goesOnAlike();
        prefilled(5, 10, 0, 5, 6).goesOnAlike();
        prefilled(0, 0, 1, 0, 0, 0).goesOnAlike();
    }

    private static void prefillingAllOrNothing() {
        Checks.promise(18);
        Twin t = newForm();
        for (int i = 0; i < 8; i++) {
            int question = i;
            t.is(question, r -> r.addQuestion(0, 15 - question, 0, 9, 1));
        }
        t.is(0, r -> r.publish(0)).is(0, r -> r.start(0, 0)).is(0, r -> r.prefill(0));
        for (int i = 0; i < 8; i++) {
            int question = i;
            t.is(1, r -> r.answer(0, question, question));
        }
        t.is(0, r -> r.prefill(0)).is(0, r -> r.submit(0)).is(1, r -> r.start(0, 0)).is(8, r -> r.prefill(1));
        t.is(0, r -> r.prefill(1)).is(2, r -> r.start(0, 0)).is(1, r -> r.answer(2, 4, 9)).is(7, r -> r.prefill(2));
        t.is(9, r -> r.value(2, 4)).is(7, r -> r.value(2, 7)).is(3, r -> r.start(1, 0)).is(0, r -> r.prefill(3));
        t.goesOnAlike();
    }

    /** The question 1 is asked from 5 on, the question 3 if the computed one before it is at most 20. */
    private static Twin rising(int first, int second) {
        Twin t = newForm().is(0, r -> r.addQuestion(0, 0, 0, 9, 1)).is(1, r -> r.addQuestion(0, 1, 0, 99, 1));
        t.is(2, r -> r.addComputed(0, 2, '+', 0, 1)).is(3, r -> r.addQuestion(0, 3, 0, 9, 1));
        t.is(1, r -> r.setCondition(0, 1, 0, '>', 5)).is(2, r -> r.setCondition(0, 3, 2, '<', 20)).is(0, r -> r.publish(0));
        t.is(0, r -> r.start(0, 0)).is(1, r -> r.answer(0, 0, first)).tries(r -> r.answer(0, 1, second));
        return t.tries(r -> r.answer(0, 3, 1)).is(0, r -> r.submit(0)).is(1, r -> r.start(0, 0));
    }

    private static void prefillingByRisingNumbers() {
        Checks.promise(18);
        rising(4, 0).is(1, r -> r.prefill(1)).is(false, r -> r.isAsked(1, 1)).goesOnAlike();
        rising(5, 15).is(3, r -> r.prefill(1)).is(20, r -> r.value(1, 2)).is(1, r -> r.value(1, 3)).goesOnAlike();
        rising(5, 16).is(2, r -> r.prefill(1)).is(21, r -> r.value(1, 2)).is(0, r -> r.answers(1, 3)).goesOnAlike();
        // Answered otherwise before, the question 0 lets the question 1 be.
        rising(9, 11).is(1, r -> r.answer(1, 0, 4)).is(0, r -> r.prefill(1)).is(0, r -> r.answers(1, 1)).goesOnAlike();
    }

    private static void submittingByStates() {
        Twin t = allStates();
        Checks.promise(19);
        for (int submission : new int[] {1, 3, 4, 5, 6, 7}) {
            t.fails(Twin.STATE, r -> r.submit(submission));
        }
        t.fails(Twin.UNSUPPORTED, r -> r.submit(0)).is(1, r -> r.submit(2)).fails(Twin.STATE, r -> r.submit(2));
        // Ended without answers: its state is looked at first.
        t.is('d', r -> r.withdraw(0)).fails(Twin.STATE, r -> r.submit(0)).goesOnAlike();
    }

    private static void submittingWithoutAnswers() {
        Checks.promise(19);
        for (int i = 0; i < 8; i++) {
            int missing = i;
            Twin t = newForm();
            for (int j = 0; j < 8; j++) {
                int question = j;
                t.is(question, r -> r.addQuestion(0, question, 0, 9, 1));
            }
            t.is(0, r -> r.publish(0)).is(0, r -> r.start(0, 0));
            for (int j = 0; j < 8; j++) {
                int question = (missing + 1 + j) % 8;
                t.fails(Twin.UNSUPPORTED, r -> r.submit(0)).is(1, r -> r.answer(0, question, 0));
            }
            t.is(0, r -> r.submit(0)).goesOnAlike();
        }
        // A question that is not asked, and a computed one without a value, need no answers.
        Twin t = newForm().is(0, r -> r.addQuestion(0, 0, 0, 9, 1)).is(1, r -> r.addQuestion(0, 1, 0, 9, 1));
        t.is(2, r -> r.addComputed(0, 2, '+', 0, 1)).is(1, r -> r.setCondition(0, 1, 0, '=', 5)).is(0, r -> r.publish(0));
        for (int i = 4; i < 7; i++) {
            int answer = i;
            t.is(answer - 4, r -> r.start(0, 0)).is(1, r -> r.answer(answer - 4, 0, answer));
        }
        t.is(0, r -> r.submit(0)).fails(Twin.UNSUPPORTED, r -> r.submit(1)).is(0, r -> r.submit(2)).goesOnAlike();
        // Sent back and emptied, it can't be submitted either.
        Twin s = submitted(form(), 0).is(1, r -> r.sendBack(0, 0, 1)).is(50, r -> r.takeBack(0, 0));
        s.fails(Twin.UNSUPPORTED, r -> r.submit(0)).is('r', r -> r.state(0)).is(1, r -> r.answer(0, 0, 0)).is(1, r -> r.submit(0));
        s.goesOnAlike();
    }

    private static void submittingToNoLegOrSix() {
        Checks.promise(19);
        for (int i = 0; i < 7; i++) {
            for (int j = 0; j < 3; j++) {
                int legs = i;
                int stage = j;
                Twin t = newForm().is(0, r -> r.addQuestion(0, 0, 0, 9, 1));
                for (int k = 0; k < legs; k++) {
                    int desk = k;
                    t.is(desk + 1, r -> r.addLeg(0, stage, desk, -1, 0, 0));
                }
                t.is(0, r -> r.publish(0)).is(0, r -> r.start(0, 0)).is(1, r -> r.answer(0, 0, 1));
                // All at one desk, which has all others as its row: the number of legs is told, not that of desks.
                for (int k = 0; k < 5; k++) {
                    int desk = k;
                    t.is(-1, r -> r.setSubstitute(desk, desk + 1));
                }
                t.is(legs, r -> r.submit(0)).is(legs == 0 ? 'a' : 's', r -> r.state(0));
                t.is(legs > 0, r -> r.waits(0, 5)).is(false, r -> r.waits(0, 0)).goesOnAlike();
            }
        }
    }

    private static void conditionsAtTheirBounds() {
        Checks.promise(25);
        for (char kind : "><=".toCharArray()) {
            for (int bound = -2; bound < 3; bound++) {
                int limit = bound;
                Twin t = newForm().is(0, r -> r.addQuestion(0, 0, -9, 9, 1)).is(1, r -> r.addQuestion(0, 1, 0, 9, 1));
                t.is(1, r -> r.setCondition(0, 1, 0, kind, limit)).is(0, r -> r.publish(0)).is(0, r -> r.start(0, 0));
                t.is(false, r -> r.isAsked(0, 1));
                for (int i = -4; i < 5; i++) {
                    int answer = i;
                    boolean isAsked = kind == '>' && answer >= limit || kind == '<' && answer <= limit
                            || kind == '=' && answer == limit;
                    t.is(1, r -> r.answer(0, 0, answer)).is(isAsked, r -> r.isAsked(0, 1)).is(answer, r -> r.takeBack(0, 0));
                }
                t.goesOnAlike();
            }
        }
        // The furthest bounds, on a computed question that comes to them.
        for (int i = 0; i < 2; i++) {
            int sign = i == 0 ? 1 : -1;
            Twin t = newForm().is(0, r -> r.addQuestion(0, 0, -999, 999, 4)).is(1, r -> r.addComputed(0, 1, '+', 0, 0));
            t.is(2, r -> r.addComputed(0, 2, '+', 0, 1)).is(3, r -> r.addQuestion(0, 3, 0, 9, 1));
            t.is(1, r -> r.setCondition(0, 3, 2, sign > 0 ? '>' : '<', sign * 9999)).is(0, r -> r.publish(0));
            t.is(0, r -> r.start(0, 0)).is(1, r -> r.answer(0, 0, sign * 999)).is(2, r -> r.answer(0, 0, sign * 999));
            t.is(3, r -> r.answer(0, 0, sign * 999)).is(4, r -> r.answer(0, 0, sign * 335)).is(sign * 9996, r -> r.value(0, 2));
            t.is(false, r -> r.isAsked(0, 3)).is(sign * 335, r -> r.takeBack(0, 0)).is(4, r -> r.answer(0, 0, sign * 336));
            t.is(sign * 9999, r -> r.value(0, 2)).is(true, r -> r.isAsked(0, 3)).goesOnAlike();
        }
    }

    private static void conditionsOnNothing() {
        Checks.promise(25);
        char[] kinds = {'>', '<', '='};
        int[] bounds = {-9999, 9999, 0};
        for (int i = 0; i < 3; i++) {
            char kind = kinds[i];
            int bound = bounds[i];
            Twin t = newForm().is(0, r -> r.addQuestion(0, 0, 0, 9, 1)).is(1, r -> r.addQuestion(0, 1, 0, 9, 1));
            t.is(2, r -> r.addComputed(0, 2, '-', 0, 0)).is(3, r -> r.addQuestion(0, 3, 0, 9, 1));
            t.is(1, r -> r.setCondition(0, 1, 0, kind, bound)).is(2, r -> r.setCondition(0, 3, 2, kind, bound));
            t.is(0, r -> r.publish(0)).is(0, r -> r.start(0, 0)).is(false, r -> r.isAsked(0, 1));
            t.is(true, r -> r.isAsked(0, 2)).is(false, r -> r.isAsked(0, 3));
            t.is(1, r -> r.answer(0, 0, 0)).is(true, r -> r.isAsked(0, 1)).is(true, r -> r.isAsked(0, 3));
            t.is(0, r -> r.takeBack(0, 0)).is(false, r -> r.isAsked(0, 1)).is(false, r -> r.isAsked(0, 3)).goesOnAlike();
        }
    }

    private static void sumsOfAnswers() {
        Checks.promise(26);
        Twin t = newForm().is(0, r -> r.addQuestion(0, 0, -999, 999, 4)).is(0, r -> r.publish(0)).is(0, r -> r.start(0, 0));
        t.fails(Twin.NO_ELEMENT, r -> r.value(0, 0));
        for (int i = 1; i < 5; i++) {
            int count = i;
            t.is(count, r -> r.answer(0, 0, 999)).is(count * 999, r -> r.value(0, 0));
        }
        for (int i = 0; i < 4; i++) {
            t.is(999, r -> r.takeBack(0, 0));
        }
        for (int i = 1; i < 5; i++) {
            int count = i;
            t.is(count, r -> r.answer(0, 0, -999)).is(count * -999, r -> r.value(0, 0));
        }
        // The sum 0 is a value, too.
        t.is(-999, r -> r.takeBack(0, 0)).is(-999, r -> r.takeBack(0, 0)).is(-999, r -> r.takeBack(0, 0));
        t.is(2, r -> r.answer(0, 0, 999)).is(0, r -> r.value(0, 0)).goesOnAlike();
    }

    /** Two plain questions and six computed ones: (2a), (2a + b), (2a - b), (ab), the lesser and the greater of two. */
    private static void computed(int a, int b, int... want) {
        Twin t = newForm().is(0, r -> r.addQuestion(0, 0, -999, 999, 4)).is(1, r -> r.addQuestion(0, 1, -999, 999, 4));
        t.is(2, r -> r.addComputed(0, 2, '+', 0, 0)).is(3, r -> r.addComputed(0, 3, '+', 2, 1));
        t.is(4, r -> r.addComputed(0, 4, '-', 2, 1)).is(5, r -> r.addComputed(0, 5, '*', 0, 1));
        t.is(6, r -> r.addComputed(0, 6, 'l', 3, 4)).is(7, r -> r.addComputed(0, 7, 'g', 3, 4));
        t.is(0, r -> r.publish(0)).is(0, r -> r.start(0, 0));
        for (int i = 2; i < 8; i++) {
            int question = i;
            t.fails(Twin.NO_ELEMENT, r -> r.value(0, question));
        }
        answerInFour(t, 0, a);
        t.fails(Twin.NO_ELEMENT, r -> r.value(0, 3)).fails(Twin.NO_ELEMENT, r -> r.value(0, 5));
        answerInFour(t, 1, b);
        for (int i = 2; i < 8; i++) {
            int question = i;
            t.is(want[question - 2], r -> r.value(0, question));
        }
    }

    private static void answerInFour(Twin t, int question, int sum) {
        int rest = sum;
        for (int i = 0; i < 4; i++) {
            int answer = Math.max(-999, Math.min(999, rest));
            t.does(r -> r.answer(0, question, answer));
            rest -= answer;
        }
        Checks.is(0, rest);
    }

    private static void computedUpToTheLimits() {
        Checks.promise(26);
        computed(3333, 3332, 6666, 9998, 3334, 9999, 3334, 9998);
        computed(3333, 3333, 6666, 9999, 3333, 9999, 3333, 9999);
        computed(3333, 3334, 6666, 9999, 3332, 9999, 3332, 9999);
        computed(-3333, -3332, -6666, -9998, -3334, 9999, -9998, -3334);
        computed(-3333, -3333, -6666, -9999, -3333, 9999, -9999, -3333);
        computed(-3333, -3334, -6666, -9999, -3332, 9999, -9999, -3332);
        computed(3333, -3332, 6666, 3334, 9998, -9999, 3334, 9998);
        computed(3333, -3333, 6666, 3333, 9999, -9999, 3333, 9999);
        computed(3333, -3334, 6666, 3332, 9999, -9999, 3332, 9999);
        computed(-3333, 3332, -6666, -3334, -9998, -9999, -9998, -3334);
        computed(-3333, 3333, -6666, -3333, -9999, -9999, -9999, -3333);
        computed(-3333, 3334, -6666, -3332, -9999, -9999, -9999, -3332);
        computed(3996, 3996, 7992, 9999, 3996, 9999, 3996, 9999);
        computed(-3996, 3996, -7992, -3996, -9999, -9999, -9999, -3996);
        computed(99, 101, 198, 299, 97, 9999, 97, 299);
        computed(100, 100, 200, 300, 100, 9999, 100, 300);
        computed(-99, 101, -198, -97, -299, -9999, -299, -97);
        computed(-100, 100, -200, -100, -300, -9999, -300, -100);
        computed(98, 102, 196, 298, 94, 9996, 94, 298);
        computed(0, 0, 0, 0, 0, 0, 0, 0);
        computedOfLimits();
    }

    /** What is computed from 9999 and -9999 themselves. */
    private static void computedOfLimits() {
        Twin t = newForm().is(0, r -> r.addQuestion(0, 0, 999, 999, 1)).is(1, r -> r.addQuestion(0, 1, -999, -999, 1));
        t.is(2, r -> r.addComputed(0, 2, '*', 0, 0)).is(3, r -> r.addComputed(0, 3, '*', 0, 1));
        t.is(4, r -> r.addComputed(0, 4, '*', 3, 3)).is(5, r -> r.addComputed(0, 5, '*', 2, 3));
        t.is(6, r -> r.addComputed(0, 6, '-', 3, 2)).is(7, r -> r.addComputed(0, 7, '+', 2, 2)).is(0, r -> r.publish(0));
        t.is(0, r -> r.start(0, 0)).is(1, r -> r.answer(0, 0, 999)).is(1, r -> r.answer(0, 1, -999));
        int[] want = {9999, -9999, 9999, -9999, -9999, 9999};
        for (int i = 2; i < 8; i++) {
            int question = i;
            t.is(want[question - 2], r -> r.value(0, question));
        }
        t.goesOnAlike();
    }

    /** A submission has the questions of its own version, whatever the present one has. */
    private static void questionsOfTheOwnVersion() {
        Twin t = newForm().is(0, r -> r.addQuestion(0, 0, 0, 9, 1)).is(0, r -> r.publish(0)).is(0, r -> r.start(0, 0));
        t.is(1, r -> r.addVersion(0));
        for (int i = 0; i < 8; i++) {
            int question = i;
            t.is(question, r -> r.addQuestion(0, question, 0, 9, 1));
        }
        t.is(0, r -> r.publish(0)).is(1, r -> r.start(0, 0)).is(2, r -> r.addVersion(0));
        t.is(0, r -> r.addQuestion(0, 0, 0, 9, 1)).is(0, r -> r.publish(0));
        Checks.promise(16);
        t.fails(Twin.BOUNDS, r -> r.answer(0, 1, 0)).is(1, r -> r.answer(1, 7, 0)).fails(Twin.BOUNDS, r -> r.answer(1, 8, 0));
        Checks.promise(17);
        t.fails(Twin.BOUNDS, r -> r.takeBack(0, 1)).is(0, r -> r.takeBack(1, 7)).fails(Twin.BOUNDS, r -> r.takeBack(1, 8));
        Checks.promise(25);
        t.fails(Twin.BOUNDS, r -> r.isAsked(0, 1)).is(true, r -> r.isAsked(1, 7)).fails(Twin.BOUNDS, r -> r.isAsked(1, 8));
        Checks.promise(26);
        t.fails(Twin.BOUNDS, r -> r.value(0, 1)).fails(Twin.NO_ELEMENT, r -> r.value(1, 7));
        t.fails(Twin.BOUNDS, r -> r.value(1, 8));
        Checks.promise(27);
        t.fails(Twin.BOUNDS, r -> r.answers(0, 1)).is(0, r -> r.answers(1, 7)).fails(Twin.BOUNDS, r -> r.answers(1, 8));
        t.goesOnAlike();
    }

    private static void goneSubmissionsAreEmpty() {
        Twin t = allStates();
        for (int i = 0; i < 3; i++) {
            int question = i;
            Checks.promise(27);
            t.is(0, r -> r.answers(7, question)).is(question == 2 ? 0 : 1, r -> r.answers(5, question));
            Checks.promise(26);
            t.fails(Twin.NO_ELEMENT, r -> r.value(7, question));
            Checks.promise(25);
            t.is(true, r -> r.isAsked(7, question));
        }
        t.goesOnAlike();
    }

    private FillBoundsTest() {
    }
}

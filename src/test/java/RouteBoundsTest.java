/** The boundary cases of the promises 19 to 23 and 28 to 30: desks, stages, legs, sending back and patience. */
public final class RouteBoundsTest {
    public static void main(String[] args) {
        desksThatAreNotThere();
        decidingByStates();
        decidingAtOtherDesks();
        approvingLegByLeg();
        approvingAllAtOnce();
        questionsToSendBackFor();
        orderForSendingBack();
        legsThatWaitedBefore();
        justTheQuestionsThatWereSentBack();
        questionsWithoutAnswersThen();
        comingAgainByValues();
        rejectedAmongMany();
        withdrawingByStates();
        stagesByStates();
        stagesOneAfterTheOther();
        waitingByStates();
        ranksAtADesk();
        ranksByDays();
        legsAtTheirBounds();
        legsOfTheOwnVersion();
        substitutesWhenLegsCome();
        patienceToTheDay();
        patienceOfEachStage();
        patienceAfterSendingBack();
        Checks.end();
    }

    private static Twin newForm() {
        return new Twin().is(0, r -> r.addForm());
    }

    private static Twin withQuestions(int questions) {
        Twin t = newForm();
        for (int i = 0; i < questions; i++) {
            int question = i;
            t.is(question, r -> r.addQuestion(0, question, -99, 99, 2));
        }
        return t;
    }

    /** A draft with one question and legs at the desks from 0 on in a stage. */
    private static Twin withLegs(int stage, int legs) {
        Twin t = withQuestions(1);
        for (int i = 0; i < legs; i++) {
            int desk = i;
            t.is(desk + 1, r -> r.addLeg(0, stage, desk, -1, 0, 0));
        }
        return t;
    }

    private static Twin submitted(Twin t, int submission, int legs, int... answers) {
        t.is(submission, r -> r.start(submission % 6, 0));
        for (int i = 0; i < answers.length; i++) {
            int question = i;
            t.is(1, r -> r.answer(submission, question, answers[question]));
        }
        return t.is(legs, r -> r.submit(submission));
    }

    private static Twin change(Twin t, int submission, int question, int before, int after) {
        return t.is(before, r -> r.takeBack(submission, question)).is(1, r -> r.answer(submission, question, after));
    }

    /** Submissions in all states: 0 'd', 1 's' at the desk 5, 2 'r', 3 'x', 4 'a', 5 'o', 6 'a' and 7 'g'. */
    private static Twin allStates() {
        Twin t = withQuestions(2).is(1, r -> r.addLeg(0, 1, 5, -1, 0, 0));
        t.is(100, r -> r.setKeeping(0, 5, -1, 0, 0)).is(0, r -> r.publish(0)).is(0, r -> r.start(0, 0));
        for (int submission = 1; submission < 6; submission++) {
            submitted(t, submission, 1, 5, 6);
        }
        t.is(1, r -> r.sendBack(2, 5, 2)).is('s', r -> r.withdraw(3)).is(0, r -> r.approve(5, 5));
        t.is(6, r -> r.amend(5)).is(1, r -> r.submit(6)).is(0, r -> r.approve(6, 5));
        submitted(t, 7, 1, 5, 6).is(0, r -> r.approve(7, 5)).is(false, r -> r.hold(5, true)).is(1, r -> r.pass(5));
        return t.is(true, r -> r.hold(5, false)).is(0, r -> r.approve(4, 5));
    }

    /** No such desk comes before the questions and the state. */
    private static void desksThatAreNotThere() {
        Twin t = allStates();
        for (int i = 0; i < 8; i++) {
            int submission = i;
            Checks.promise(20);
            t.outside(0, 5, Twin.BOUNDS, desk -> r -> r.approve(submission, desk));
            Checks.promise(21);
            t.outside(0, 5, Twin.BOUNDS, desk -> r -> r.sendBack(submission, desk, 1));
            t.outside(0, 5, Twin.BOUNDS, desk -> r -> r.sendBack(submission, desk, 0));
            Checks.promise(22);
            t.outside(0, 5, Twin.BOUNDS, desk -> r -> r.reject(submission, desk));
            Checks.promise(29);
            t.outside(0, 5, Twin.BOUNDS, desk -> r -> r.waits(submission, desk));
        }
        Checks.promise(30);
        t.outside(0, 5, Twin.BOUNDS, desk -> r -> r.waitingAt(desk, 0));
        t.outside(0, 5, Twin.BOUNDS, desk -> r -> r.waitingAt(desk, -1)).goesOnAlike();
        Checks.promise(29);
        t.outside(0, 5, Twin.BOUNDS, desk -> r -> r.waits(24, desk)).fails(Twin.BOUNDS, r -> r.waits(24, 0));
        t.fails(Twin.BOUNDS, r -> r.waits(-1, 0));
    }

    private static void decidingByStates() {
        Twin t = allStates();
        for (int submission : new int[] {0, 2, 3, 4, 5, 6, 7}) {
            for (int desk : new int[] {0, 4, 5}) {
                Checks.promise(20);
                t.fails(Twin.STATE, r -> r.approve(submission, desk));
                Checks.promise(21);
                t.fails(Twin.STATE, r -> r.sendBack(submission, desk, 1));
                Checks.promise(22);
                t.fails(Twin.STATE, r -> r.reject(submission, desk));
            }
        }
        Checks.promise(20);
        t.is(0, r -> r.approve(1, 5)).fails(Twin.STATE, r -> r.approve(1, 5));
        Checks.promise(21);
        t.fails(Twin.STATE, r -> r.sendBack(1, 5, 1));
        Checks.promise(22);
        t.fails(Twin.STATE, r -> r.reject(1, 5)).goesOnAlike();
    }

    private static void decidingAtOtherDesks() {
        for (int i = 0; i < 6; i++) {
            int desk = i;
            Twin t = withQuestions(1).is(1, r -> r.addLeg(0, 0, desk, -1, 0, 0));
            t.is(2, r -> r.addLeg(0, 1, (desk + 1) % 6, -1, 0, 0)).is(0, r -> r.publish(0));
            submitted(t, 0, 1, 5);
            for (int j = 1; j < 6; j++) {
                // Also the desk at which a leg of the next stage will wait.
                int other = (desk + j) % 6;
                Checks.promise(20);
                t.fails(Twin.NO_ELEMENT, r -> r.approve(0, other));
                Checks.promise(21);
                t.fails(Twin.NO_ELEMENT, r -> r.sendBack(0, other, 1));
                Checks.promise(22);
                t.fails(Twin.NO_ELEMENT, r -> r.reject(0, other));
            }
            Checks.promise(20);
            t.is(1, r -> r.approve(0, desk)).fails(Twin.NO_ELEMENT, r -> r.approve(0, desk));
            t.is(0, r -> r.approve(0, (desk + 1) % 6)).goesOnAlike();
        }
    }

    private static void approvingLegByLeg() {
        Checks.promise(20);
        for (int i = 1; i < 7; i++) {
            for (int j = 0; j < 3; j++) {
                int legs = i;
                int stage = j;
                Twin t = withLegs(stage, legs).is(0, r -> r.publish(0));
                submitted(t, 0, legs, 5);
                for (int k = legs - 1; k >= 0; k--) {
                    int desk = k;
                    t.is('s', r -> r.state(0)).is(stage, r -> r.stage(0));
                    t.is(desk, r -> r.approve(0, desk));
                }
                t.is('a', r -> r.state(0)).goesOnAlike();
            }
        }
        // What waits then are the legs of the next stage, one of them at the same desk.
        Twin t = withLegs(0, 1).is(2, r -> r.addLeg(0, 1, 0, -1, 0, 0)).is(3, r -> r.addLeg(0, 1, 1, -1, 0, 0));
        t.is(4, r -> r.addLeg(0, 2, 0, -1, 0, 0)).is(5, r -> r.addLeg(0, 2, 1, -1, 0, 0)).is(6, r -> r.addLeg(0, 2, 2, -1, 0, 0));
        submitted(t.is(0, r -> r.publish(0)), 0, 1, 5);
        t.is(2, r -> r.approve(0, 0)).is(1, r -> r.approve(0, 0)).is(3, r -> r.approve(0, 1));
        t.is(2, r -> r.approve(0, 1)).is(1, r -> r.approve(0, 0)).is(0, r -> r.approve(0, 2)).goesOnAlike();
    }

    private static void approvingAllAtOnce() {
        Checks.promise(20);
        for (int i = 1; i < 7; i++) {
            int legs = i;
            Twin t = withLegs(0, legs).is(0, r -> r.publish(0));
            for (int j = 0; j < legs - 1; j++) {
                int desk = j;
                t.is(-1, r -> r.setSubstitute(desk, legs - 1));
            }
            submitted(t, 0, legs, 5).is(0, r -> r.approve(0, legs - 1)).is('a', r -> r.state(0)).goesOnAlike();
        }
    }

    /** Just the plain questions of the version: not none of them, no computed one, none behind the last one. */
    private static void questionsToSendBackFor() {
        Checks.promise(21);
        for (int i = 1; i < 9; i++) {
            int questions = i;
            int all = (1 << questions) - 1;
            Twin t = withQuestions(questions).is(1, r -> r.addLeg(0, 0, 0, -1, 0, 0)).is(0, r -> r.publish(0));
            submitted(t, 0, 1, new int[questions]);
            t.outside(1, all, Twin.ARGUMENT, mask -> r -> r.sendBack(0, 0, mask));
            for (int bit = questions; bit < 32; bit++) {
                int wrong = 1 << bit;
                t.fails(Twin.ARGUMENT, r -> r.sendBack(0, 0, wrong)).fails(Twin.ARGUMENT, r -> r.sendBack(0, 0, wrong | 1));
                t.fails(Twin.ARGUMENT, r -> r.sendBack(0, 0, wrong | all));
            }
            for (int mask = 1; mask <= all; mask++) {
                int sent = mask;
                t.is(1, r -> r.sendBack(0, 0, sent)).is(1, r -> r.submit(0));
            }
            t.goesOnAlike();
        }
        for (int i = 1; i < 8; i++) {
            // The question i is computed, the other ones are plain.
            int computed = i;
            Twin t = withQuestions(computed).is(computed, r -> r.addComputed(0, computed, '+', 0, 0));
            for (int j = computed + 1; j < 8; j++) {
                int question = j;
                t.is(question, r -> r.addQuestion(0, question, -99, 99, 1));
            }
            t.is(1, r -> r.addLeg(0, 0, 0, -1, 0, 0)).is(0, r -> r.publish(0)).is(0, r -> r.start(0, 0));
            for (int j = 0; j < 8; j++) {
                int question = j;
                t.is(question == computed ? "throws UnsupportedOperationException" : 1, r -> r.answer(0, question, 1));
            }
            t.is(1, r -> r.submit(0)).fails(Twin.ARGUMENT, r -> r.sendBack(0, 0, 1 << computed));
            t.fails(Twin.ARGUMENT, r -> r.sendBack(0, 0, 1 << computed | 1)).fails(Twin.ARGUMENT, r -> r.sendBack(0, 0, 255));
            t.is(1, r -> r.sendBack(0, 0, 255 - (1 << computed))).is('r', r -> r.state(0)).goesOnAlike();
        }
    }

    private static void orderForSendingBack() {
        Checks.promise(21);
        Twin t = allStates();
        for (int i = 0; i < 8; i++) {
            int submission = i;
            // Before the state, and before the desk at which no leg waits.
            t.fails(Twin.ARGUMENT, r -> r.sendBack(submission, 0, 0)).fails(Twin.ARGUMENT, r -> r.sendBack(submission, 5, 4));
            t.fails(Twin.ARGUMENT, r -> r.sendBack(submission, 0, -1)).fails(Twin.BOUNDS, r -> r.sendBack(submission, 6, 4));
            t.fails(Twin.BOUNDS, r -> r.sendBack(submission, -1, 0));
        }
        t.fails(Twin.NO_ELEMENT, r -> r.sendBack(1, 0, 1)).fails(Twin.STATE, r -> r.sendBack(2, 0, 1));
        t.fails(Twin.STATE, r -> r.sendBack(0, 0, 3)).is(1, r -> r.sendBack(1, 5, 3)).goesOnAlike();
    }

    private static void legsThatWaitedBefore() {
        Checks.promise(21);
        for (int i = 1; i < 7; i++) {
            for (int j = 0; j < i; j++) {
                int legs = i;
                int approved = j;
                Twin t = submitted(withLegs(1, legs).is(0, r -> r.publish(0)), 0, legs, 5);
                for (int k = 0; k < approved; k++) {
                    int desk = k;
                    t.is(legs - 1 - desk, r -> r.approve(0, desk));
                }
                t.is(legs - approved, r -> r.sendBack(0, legs - 1, 1)).is(1, r -> r.stage(0));
                for (int k = 0; k < 6; k++) {
                    int desk = k;
                    t.is(false, r -> r.waits(0, desk));
                }
                t.is(legs - approved, r -> r.submit(0)).goesOnAlike();
            }
        }
    }

    private static void justTheQuestionsThatWereSentBack() {
        for (int i = 1; i < 16; i++) {
            int mask = i;
            Twin t = withQuestions(4).is(1, r -> r.addLeg(0, 0, 0, -1, 0, 0)).is(0, r -> r.publish(0));
            submitted(t, 0, 1, 5, 6, 7, 8).is(1, r -> r.sendBack(0, 0, mask));
            for (int j = 0; j < 4; j++) {
                int question = j;
                if ((mask >> question & 1) != 0) {
                    Checks.promise(16);
                    t.is(2, r -> r.answer(0, question, 9)).fails(Twin.ARGUMENT, r -> r.answer(0, question, 9));
                    Checks.promise(17);
                    t.is(9, r -> r.takeBack(0, question)).is(5 + question, r -> r.takeBack(0, question));
                    t.fails(Twin.NO_ELEMENT, r -> r.takeBack(0, question)).is(1, r -> r.answer(0, question, 4));
                } else {
                    Checks.promise(16);
                    t.fails(Twin.UNSUPPORTED, r -> r.answer(0, question, 9));
                    Checks.promise(17);
                    t.fails(Twin.UNSUPPORTED, r -> r.takeBack(0, question));
                }
            }
            t.is(1, r -> r.submit(0)).goesOnAlike();
        }
    }

    /** Questions 1 and 2 are asked if the question 0 is at least 5; only 2 has answers when it is sent back. */
    private static void questionsWithoutAnswersThen() {
        Twin t = withQuestions(3).is(1, r -> r.setCondition(0, 1, 0, '>', 5)).is(2, r -> r.setCondition(0, 2, 0, '>', 5));
        t.is(1, r -> r.addLeg(0, 0, 0, -1, 0, 0)).is(0, r -> r.publish(0)).is(0, r -> r.start(0, 0));
        t.is(1, r -> r.answer(0, 0, 5)).is(1, r -> r.answer(0, 2, 8));
        change(t, 0, 0, 5, 4).is(1, r -> r.submit(0)).is(1, r -> r.sendBack(0, 0, 1));
        Checks.promise(16);
        t.fails(Twin.UNSUPPORTED, r -> r.answer(0, 1, 7)).fails(Twin.UNSUPPORTED, r -> r.answer(0, 2, 7));
        change(t, 0, 0, 4, 5).fails(Twin.UNSUPPORTED, r -> r.answer(0, 2, 7)).is(1, r -> r.answer(0, 1, 7));
        Checks.promise(17);
        t.fails(Twin.UNSUPPORTED, r -> r.takeBack(0, 2)).is(7, r -> r.takeBack(0, 1));
        t.fails(Twin.NO_ELEMENT, r -> r.takeBack(0, 1));
        Checks.promise(19);
        t.fails(Twin.UNSUPPORTED, r -> r.submit(0)).is(1, r -> r.answer(0, 1, 7)).is(1, r -> r.submit(0));
        // Sent back again, the question 1 has answers by now.
        Checks.promise(17);
        t.is(1, r -> r.sendBack(0, 0, 1)).fails(Twin.UNSUPPORTED, r -> r.takeBack(0, 1)).is(5, r -> r.takeBack(0, 0));
        t.goesOnAlike();
    }

    /** A leg with a question and one without; both approved, and then sent back by a third one. */
    private static void comingAgainByValues() {
        Checks.promise(19);
        for (int i = -1; i < 3; i++) {
            int change = i;
            Twin t = withQuestions(2).is(1, r -> r.addLeg(0, 2, 0, 0, 10, 0)).is(2, r -> r.addLeg(0, 2, 1, -1, 0, 0));
            t.is(3, r -> r.addLeg(0, 2, 2, -1, 0, 0)).is(0, r -> r.publish(0));
            submitted(t, 0, 3, 11, 1).is(2, r -> r.approve(0, 0)).is(1, r -> r.approve(0, 1)).is(1, r -> r.sendBack(0, 2, 3));
            change(t, 0, 1, 1, 2);
            change(t, 0, 0, 11, 11 + change);
            // The same value or one below the bound: it does not come. Another one from the bound on: it does.
            boolean comes = change != 0 && 11 + change >= 10;
            t.is(comes ? 2 : 1, r -> r.submit(0)).is(comes, r -> r.waits(0, 0)).is(false, r -> r.waits(0, 1));
            t.is(true, r -> r.waits(0, 2)).is(2, r -> r.stage(0)).goesOnAlike();
        }
        // Below the bound, and from there back to the value of the approval.
        Twin t = withQuestions(1).is(1, r -> r.addLeg(0, 0, 0, 0, 10, 0)).is(2, r -> r.addLeg(0, 0, 1, -1, 0, 0));
        submitted(t.is(0, r -> r.publish(0)), 0, 2, 10).is(1, r -> r.approve(0, 0)).is(1, r -> r.sendBack(0, 1, 1));
        change(t, 0, 0, 10, 9).is(1, r -> r.submit(0)).is(1, r -> r.sendBack(0, 1, 1));
        change(t, 0, 0, 9, 10).is(1, r -> r.submit(0)).is(false, r -> r.waits(0, 0)).is(1, r -> r.sendBack(0, 1, 1));
        change(t, 0, 0, 10, 11).is(2, r -> r.submit(0)).is(true, r -> r.waits(0, 0)).goesOnAlike();
        // The same value of other answers is the same value.
        Twin s = withQuestions(1).is(1, r -> r.addLeg(0, 0, 0, 0, 10, 0)).is(2, r -> r.addLeg(0, 0, 1, -1, 0, 0));
        submitted(s.is(0, r -> r.publish(0)), 0, 2, 10).is(1, r -> r.approve(0, 0)).is(1, r -> r.sendBack(0, 1, 1));
        change(s, 0, 0, 10, 4).is(2, r -> r.answer(0, 0, 6)).is(1, r -> r.submit(0)).is(false, r -> r.waits(0, 0));
        s.goesOnAlike();
    }

    private static void rejectedAmongMany() {
        Checks.promise(22);
        Twin t = withLegs(0, 2).is(0, r -> r.publish(0)).is(-1, r -> r.setSubstitute(0, 1));
        for (int submission = 0; submission < 24; submission++) {
            submitted(t, submission, 2, 5);
        }
        for (int i = 23; i >= 0; i--) {
            int submission = i;
            // Two legs of each one wait there; the submissions are told.
            t.is(submission, r -> r.reject(submission, 1)).is('x', r -> r.state(submission));
            t.fails(Twin.STATE, r -> r.reject(submission, 1));
        }
        t.fails(Twin.NO_ELEMENT, r -> r.waitingAt(1, 0)).goesOnAlike();
    }

    private static void withdrawingByStates() {
        Twin t = allStates();
        Checks.promise(23);
        for (int submission : new int[] {3, 4, 5, 6, 7}) {
            t.fails(Twin.STATE, r -> r.withdraw(submission));
        }
        t.is('d', r -> r.withdraw(0)).is('s', r -> r.withdraw(1)).is('r', r -> r.withdraw(2));
        for (int i = 0; i < 8; i++) {
            int submission = i;
            t.is(submission < 4 ? 'x' : "aoag".charAt(submission - 4), r -> r.state(submission));
        }
        for (int submission : new int[] {0, 1, 2}) {
            t.fails(Twin.STATE, r -> r.withdraw(submission));
        }
        t.fails(Twin.NO_ELEMENT, r -> r.waitingAt(5, 0)).is(false, r -> r.waits(1, 5)).goesOnAlike();
    }

    private static void stagesByStates() {
        Twin t = allStates();
        Checks.promise(28);
        for (int submission : new int[] {0, 3, 4, 5, 6, 7}) {
            t.fails(Twin.STATE, r -> r.stage(submission));
        }
        t.is(1, r -> r.stage(1)).is(1, r -> r.stage(2)).outside(0, 7, Twin.BOUNDS, submission -> r -> r.stage(submission));
        t.goesOnAlike();
    }

    /** For each set of stages with legs: empty ones begin and end at once. */
    private static void stagesOneAfterTheOther() {
        Checks.promise(28);
        for (int i = 0; i < 8; i++) {
            int stages = i;
            Twin t = withQuestions(1);
            for (int j = 0; j < 3; j++) {
                int stage = j;
                if ((stages >> stage & 1) != 0) {
                    t.does(r -> r.addLeg(0, stage, 0, -1, 0, 0));
                } else {
                    // A leg that is not needed is none.
                    t.does(r -> r.addLeg(0, stage, 0, 0, 6, 0));
                }
            }
            t.is(0, r -> r.publish(0));
            submitted(t, 0, stages == 0 ? 0 : 1, 5);
            for (int j = 0; j < 3; j++) {
                int stage = j;
                if ((stages >> stage & 1) != 0) {
                    t.is(stage, r -> r.stage(0)).is(stages >> stage + 1 == 0 ? 0 : 1, r -> r.approve(0, 0));
                }
            }
            t.is('a', r -> r.state(0)).fails(Twin.STATE, r -> r.stage(0)).goesOnAlike();
        }
    }

    private static void waitingByStates() {
        Twin t = allStates();
        Checks.promise(29);
        for (int i = 0; i < 8; i++) {
            for (int j = 0; j < 6; j++) {
                int submission = i;
                int desk = j;
                t.is(submission == 1 && desk == 5, r -> r.waits(submission, desk));
            }
        }
        t.outside(0, 7, Twin.BOUNDS, submission -> r -> r.waits(submission, 5)).goesOnAlike();
    }

    private static void ranksAtADesk() {
        Checks.promise(30);
        Twin t = withLegs(0, 2).is(0, r -> r.publish(0)).fails(Twin.NO_ELEMENT, r -> r.waitingAt(1, 0));
        for (int i = 0; i < 24; i++) {
            int submission = i;
            submitted(t, submission, 2, 5);
            t.is(submission, r -> r.waitingAt(1, submission)).is(0, r -> r.waitingAt(0, 0));
            t.fails(Twin.NO_ELEMENT, r -> r.waitingAt(1, submission + 1));
        }
        t.outside(0, 23, Twin.NO_ELEMENT, rank -> r -> r.waitingAt(0, rank));
        t.outside(0, -1, Twin.NO_ELEMENT, rank -> r -> r.waitingAt(2, rank));
        for (int i = 0; i < 24; i++) {
            int submission = i;
            t.is(1, r -> r.approve(submission, 0)).fails(Twin.NO_ELEMENT, r -> r.waitingAt(0, 23 - submission));
        }
        t.is(23, r -> r.waitingAt(1, 23)).fails(Twin.NO_ELEMENT, r -> r.waitingAt(0, 0)).goesOnAlike();
    }

    /** By the day on which the present stage began, whatever came before; the same day by numbers. */
    private static void ranksByDays() {
        Checks.promise(30);
        Twin t = withLegs(0, 1).is(2, r -> r.addLeg(0, 1, 0, -1, 0, 0)).is(0, r -> r.publish(0));
        for (int i = 0; i < 4; i++) {
            int submission = i;
            t.is(submission, r -> r.start(0, 0)).is(1, r -> r.answer(submission, 0, 5));
        }
        t.is(1, r -> r.submit(3)).is(1, r -> r.submit(1)).is(0, r -> r.pass(1)).is(1, r -> r.submit(0)).is(1, r -> r.submit(2));
        ranks(t, 1, 3, 0, 2);
        // The stage 1 of the submission 1 begins on the day 1.
        t.is(1, r -> r.approve(1, 0));
        ranks(t, 3, 0, 1, 2);
        t.is(0, r -> r.pass(60)).is(1, r -> r.approve(0, 0));
        ranks(t, 3, 1, 2, 0);
        // Sent back, it waits nowhere; submitted again, its stage begins again.
        t.is(1, r -> r.sendBack(3, 0, 1));
        ranks(t, 1, 2, 0);
        t.is(1, r -> r.submit(3));
        ranks(t, 1, 2, 0, 3);
        t.goesOnAlike();
    }

    private static void ranks(Twin t, int... submissions) {
        for (int i = 0; i < submissions.length; i++) {
            int rank = i;
            t.is(submissions[rank], r -> r.waitingAt(0, rank));
        }
        t.fails(Twin.NO_ELEMENT, r -> r.waitingAt(0, submissions.length)).fails(Twin.NO_ELEMENT, r -> r.waitingAt(0, -1));
    }

    private static void legsAtTheirBounds() {
        Checks.promise(19);
        for (int bound : new int[] {-99, -1, 0, 1, 99}) {
            for (int i = -1; i < 2; i++) {
                int answer = Math.max(-99, Math.min(99, bound + i));
                boolean isNeeded = answer >= bound;
                Twin t = withQuestions(1).is(1, r -> r.addLeg(0, 0, 0, 0, bound, 0)).is(0, r -> r.publish(0));
                submitted(t, 0, isNeeded ? 1 : 0, answer).is(isNeeded, r -> r.waits(0, 0)).goesOnAlike();
            }
        }
        // Without a value it is not needed, whatever the bound; the value 0 is one.
        for (int i = 4; i < 6; i++) {
            int answer = i;
            Twin t = withQuestions(2).is(1, r -> r.setCondition(0, 1, 0, '>', 5)).is(2, r -> r.addComputed(0, 2, '-', 1, 1));
            t.is(1, r -> r.addLeg(0, 0, 0, 1, -9999, 0)).is(2, r -> r.addLeg(0, 0, 1, 2, -9999, 0));
            t.is(3, r -> r.addLeg(0, 0, 2, 2, 0, 0)).is(4, r -> r.addLeg(0, 0, 3, 2, 1, 0)).is(0, r -> r.publish(0));
            t.is(0, r -> r.start(0, 0)).is(1, r -> r.answer(0, 0, answer)).tries(r -> r.answer(0, 1, -99));
            t.is(answer < 5 ? 0 : 3, r -> r.submit(0)).is(false, r -> r.waits(0, 3)).goesOnAlike();
        }
        // The furthest bounds, on computed questions that come to them.
        Twin t = newForm().is(0, r -> r.addQuestion(0, 0, -999, 999, 1)).is(1, r -> r.addComputed(0, 1, '*', 0, 0));
        t.is(2, r -> r.addComputed(0, 2, '-', 0, 1)).is(3, r -> r.addComputed(0, 3, '-', 2, 1));
        t.is(1, r -> r.addLeg(0, 0, 0, 1, 9999, 0)).is(2, r -> r.addLeg(0, 0, 1, 1, 9998, 0));
        t.is(3, r -> r.addLeg(0, 0, 2, 3, -9999, 0)).is(4, r -> r.addLeg(0, 0, 3, 3, -9998, 0)).is(0, r -> r.publish(0));
        submitted(t, 0, 3, 999).is(true, r -> r.waits(0, 0)).is(true, r -> r.waits(0, 1)).is(true, r -> r.waits(0, 2));
        t.is(false, r -> r.waits(0, 3));
        submitted(t, 1, 1, 99).is(true, r -> r.waits(1, 2)).goesOnAlike();
    }

    /** A later version has other legs, bounds and values, which are nothing to a submission of an earlier one. */
    private static void legsOfTheOwnVersion() {
        Checks.promise(19);
        Twin t = withQuestions(1).is(1, r -> r.addLeg(0, 0, 0, 0, 5, 0)).is(0, r -> r.publish(0)).is(0, r -> r.start(0, 0));
        t.is(1, r -> r.start(0, 0)).is(1, r -> r.answer(0, 0, 5)).is(1, r -> r.answer(1, 0, 4)).is(1, r -> r.addVersion(0));
        t.is(0, r -> r.addQuestion(0, 0, -99, 99, 1)).is(1, r -> r.setMap(0, 0, 0, '*', 2));
        t.is(1, r -> r.addLeg(0, 0, 1, 0, 8, 0)).is(2, r -> r.addLeg(0, 0, 2, -1, 0, 0)).is(0, r -> r.publish(0));
        t.is(1, r -> r.submit(0)).is(true, r -> r.waits(0, 0)).is(false, r -> r.waits(0, 1)).is(0, r -> r.submit(1));
        t.is(0, r -> r.approve(0, 0)).is(2, r -> r.amend(1)).is(8, r -> r.value(2, 0)).is(2, r -> r.submit(2)).goesOnAlike();
    }

    private static void substitutesWhenLegsCome() {
        Checks.promise(13);
        for (int i = 0; i < 6; i++) {
            int length = i;
            Twin t = withLegs(0, 1).is(2, r -> r.addLeg(0, 1, 0, -1, 0, 0)).is(0, r -> r.publish(0));
            for (int j = 0; j < length; j++) {
                int desk = j;
                t.is(-1, r -> r.setSubstitute(desk, desk + 1));
            }
            submitted(t, 0, 1, 5);
            for (int j = 0; j < 6; j++) {
                int desk = j;
                t.is(desk == length, r -> r.waits(0, desk));
            }
            // Changed now, the leg that waits stays; the next one goes the new way.
            int then = length == 5 ? 4 : length + 1;
            if (length == 5) {
                t.is(5, r -> r.setSubstitute(4, -1));
            } else {
                t.is(-1, r -> r.setSubstitute(length, then));
            }
            t.is(true, r -> r.waits(0, length)).is(false, r -> r.waits(0, then)).is(1, r -> r.approve(0, length));
            t.is(true, r -> r.waits(0, then)).is(false, r -> r.waits(0, length)).is(0, r -> r.approve(0, then)).goesOnAlike();
        }
        // Sent back and submitted again, a leg comes anew, the new way.
        Twin t = submitted(withLegs(0, 1).is(0, r -> r.publish(0)), 0, 1, 5).is(-1, r -> r.setSubstitute(0, 3));
        t.is(true, r -> r.waits(0, 0)).is(1, r -> r.sendBack(0, 0, 1)).is(1, r -> r.submit(0)).is(true, r -> r.waits(0, 3));
        t.fails(Twin.NO_ELEMENT, r -> r.approve(0, 0)).is(0, r -> r.approve(0, 3)).goesOnAlike();
    }

    private static void patienceToTheDay() {
        Checks.promise(44);
        for (int days : new int[] {1, 2, 30, 59, 60}) {
            Twin t = withQuestions(1).is(1, r -> r.addLeg(0, 0, 0, -1, 0, days)).is(2, r -> r.addLeg(0, 0, 1, -1, 0, 0));
            t.is(0, r -> r.publish(0)).is(0, r -> r.pass(7));
            submitted(t, 0, 2, 5);
            if (days > 1) {
                t.is(0, r -> r.pass(days - 1)).is(true, r -> r.waits(0, 0));
            }
            t.is(0, r -> r.pass(1)).is(false, r -> r.waits(0, 0)).is(true, r -> r.waits(0, 1));
            // The leg without patience waits for ever.
            for (int i = 0; i < 20; i++) {
                t.is(0, r -> r.pass(60));
            }
            t.is(true, r -> r.waits(0, 1)).is(0, r -> r.approve(0, 1)).goesOnAlike();
            // All days in one call.
            Twin s = withQuestions(1).is(1, r -> r.addLeg(0, 0, 0, -1, 0, days)).is(0, r -> r.publish(0));
            submitted(s, 0, 1, 5).is(0, r -> r.pass(days)).is('a', r -> r.state(0)).is(days + 100, r -> r.lastDay(0));
            s.goesOnAlike();
        }
    }

    /** The patience of a stage counts from the day on which it began. */
    private static void patienceOfEachStage() {
        Checks.promise(44);
        Twin t = withQuestions(1);
        for (int i = 0; i < 3; i++) {
            int stage = i;
            t.is(stage + 1, r -> r.addLeg(0, stage, 0, -1, 0, 20));
        }
        t.is(0, r -> r.publish(0));
        submitted(t, 0, 1, 5).is(0, r -> r.pass(19)).is(0, r -> r.stage(0)).is(0, r -> r.pass(1)).is(1, r -> r.stage(0));
        t.is(0, r -> r.pass(10)).is(1, r -> r.approve(0, 0)).is(0, r -> r.pass(19)).is(2, r -> r.stage(0));
        t.is(0, r -> r.pass(1)).is('a', r -> r.state(0)).is(50, r -> r.day()).is(150, r -> r.lastDay(0)).goesOnAlike();
        // Sixty days in one call: every day is one of its own.
        Twin s = withQuestions(1);
        for (int i = 0; i < 3; i++) {
            int stage = i;
            s.is(stage + 1, r -> r.addLeg(0, stage, 0, -1, 0, 20));
        }
        submitted(s.is(0, r -> r.publish(0)), 0, 1, 5).is(0, r -> r.pass(59)).is(2, r -> r.stage(0)).is(0, r -> r.pass(1));
        s.is('a', r -> r.state(0)).is(160, r -> r.lastDay(0)).goesOnAlike();
    }

    private static void patienceAfterSendingBack() {
        Checks.promise(44);
        Twin t = withQuestions(1).is(1, r -> r.addLeg(0, 0, 0, -1, 0, 10)).is(0, r -> r.publish(0));
        submitted(t, 0, 1, 5).is(0, r -> r.pass(9)).is(1, r -> r.sendBack(0, 0, 1)).is(0, r -> r.pass(60)).is('r', r -> r.state(0));
        t.is(1, r -> r.submit(0)).is(0, r -> r.pass(9)).is('s', r -> r.state(0)).is(0, r -> r.pass(1)).is('a', r -> r.state(0));
        t.goesOnAlike();
    }

    private RouteBoundsTest() {
    }
}

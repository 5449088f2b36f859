/** The boundary cases of the promises 1 to 13: what is just allowed, what is just refused, and what a refusal leaves. */
public final class FormBoundsTest {
    private static final int MIN = Integer.MIN_VALUE;
    private static final int MAX = Integer.MAX_VALUE;

    public static void main(String[] args) {
        aNewObjectIsEmpty();
        threeFormsAtMost();
        formsThatAreNotThere();
        fourVersionsAtMost();
        oneDraftAtMost();
        rangesOfPlainQuestions();
        eightQuestionsAtMost();
        orderForPlainQuestions();
        rangesOfComputedQuestions();
        orderForComputedQuestions();
        rangesOfConditions();
        earlierQuestionsOnly();
        orderForConditions();
        aConditionInPlaceOfAnother();
        rangesOfMaps();
        versionsOfMaps();
        orderForMaps();
        aMapInPlaceOfAnother();
        rangesOfLegs();
        sixLegsAtMost();
        everyStageAndDeskOnce();
        orderForLegs();
        rangesOfKeeping();
        orderForKeeping();
        refusedDrafts();
        meaningsThatAreThereTwice();
        meaningsOfOtherForms();
        valuesThatPublishingChanges();
        presentVersions();
        owners();
        rangesOfSubstitutes();
        rowsOfSubstitutes();
        Checks.end();
    }

    private static Twin draft() {
        return new Twin().is(0, r -> r.addForm());
    }

    /** A draft with plain questions, of the meanings from 0 on. */
    private static Twin draft(int questions) {
        return withQuestions(draft(), questions);
    }

    private static Twin withQuestions(Twin twin, int questions) {
        for (int i = 0; i < questions; i++) {
            int question = i;
            twin.is(question, r -> r.addQuestion(0, question, 0, 99, 1));
        }
        return twin;
    }

    private static Twin published(int questions) {
        return draft(questions).is(0, r -> r.publish(0));
    }

    /** A draft with a number of questions, behind a published version with another number of them. */
    private static Twin secondDraft(int before, int questions) {
        return withQuestions(published(before).is(1, r -> r.addVersion(0)), questions);
    }

    private static void aNewObjectIsEmpty() {
        Checks.promise(1);
        Twin t = new Twin().is(0, r -> r.day());
        for (int i = -1; i < 2; i++) {
            int number = i;
            t.fails(Twin.BOUNDS, r -> r.addVersion(number)).fails(Twin.BOUNDS, r -> r.publish(number));
            t.fails(Twin.BOUNDS, r -> r.present(number)).fails(Twin.BOUNDS, r -> r.start(0, number));
            t.fails(Twin.BOUNDS, r -> r.state(number)).fails(Twin.BOUNDS, r -> r.amend(number));
            t.fails(Twin.BOUNDS, r -> r.submit(number)).fails(Twin.BOUNDS, r -> r.withdraw(number));
            t.fails(Twin.BOUNDS, r -> r.carried(number, 0)).fails(Twin.BOUNDS, r -> r.value(number, 0));
        }
        t.fails(Twin.ARITHMETIC, r -> r.acceptedShare()).fails(Twin.NO_ELEMENT, r -> r.waitingAt(0, 0));
        for (int i = 0; i < 16; i++) {
            int meaning = i;
            t.fails(Twin.NO_ELEMENT, r -> r.owner(meaning)).fails(Twin.ARITHMETIC, r -> r.meanValue(meaning));
            t.is(0, r -> r.total(meaning)).is(0, r -> r.totalAnew(meaning)).is(0, r -> r.counted(meaning));
        }
        for (int i = 0; i < 6; i++) {
            int number = i;
            t.fails(Twin.NO_ELEMENT, r -> r.record(number, 0)).is(true, r -> r.isSound(number));
            t.is(false, r -> r.hold(number, false)).is(-1, r -> r.setSubstitute(number, -1));
        }
        t.is(0, r -> r.pass(1)).is(1, r -> r.day()).goesOnAlike();
    }

    private static void threeFormsAtMost() {
        Checks.promise(2);
        Twin t = new Twin();
        for (int i = 0; i < 3; i++) {
            int form = i;
            t.fails(Twin.BOUNDS, r -> r.publish(form));
            t.is(form, r -> r.addForm());
            // The version 0 is a draft without questions.
            t.fails(Twin.STATE, r -> r.addVersion(form)).fails(Twin.STATE, r -> r.publish(form));
        }
        t.fails(Twin.STATE, r -> r.addForm()).fails(Twin.STATE, r -> r.addForm());
        t.fails(Twin.BOUNDS, r -> r.publish(3));
        for (int i = 0; i < 3; i++) {
            int form = i;
            t.is(0, r -> r.addQuestion(form, form, 0, 9, 1)).is(0, r -> r.publish(form)).is(0, r -> r.present(form));
            t.fails(Twin.STATE, r -> r.addForm());
        }
        t.goesOnAlike();
    }

    /** The form is looked at before all else: each call has other faults, too. */
    private static void formsThatAreNotThere() {
        for (int forms = 1; forms < 4; forms++) {
            Twin t = draft(1);
            for (int form = 1; form < forms; form++) {
                t.does(r -> r.addForm());
            }
            int last = forms - 1;
            Checks.promise(3);
            t.outside(0, last, Twin.BOUNDS, form -> r -> r.addVersion(form));
            Checks.promise(4);
            t.outside(0, last, Twin.BOUNDS, form -> r -> r.addQuestion(form, 16, -1000, -1001, 5));
            Checks.promise(5);
            t.outside(0, last, Twin.BOUNDS, form -> r -> r.addComputed(form, -1, '?', -1, 9));
            Checks.promise(6);
            t.outside(0, last, Twin.BOUNDS, form -> r -> r.setCondition(form, -1, 9, '?', 10000));
            Checks.promise(7);
            t.outside(0, last, Twin.BOUNDS, form -> r -> r.setMap(form, -1, 9, '/', 0));
            Checks.promise(8);
            t.outside(0, last, Twin.BOUNDS, form -> r -> r.addLeg(form, 3, 6, 9, 10000, 61));
            Checks.promise(9);
            t.outside(0, last, Twin.BOUNDS, form -> r -> r.setKeeping(form, 0, 9, 10000, 401));
            Checks.promise(10);
            t.outside(0, last, Twin.BOUNDS, form -> r -> r.publish(form));
            Checks.promise(11);
            t.outside(0, last, Twin.BOUNDS, form -> r -> r.present(form)).goesOnAlike();
        }
    }

    private static void fourVersionsAtMost() {
        Checks.promise(3);
        Twin t = draft();
        for (int i = 0; i < 4; i++) {
            int version = i;
            t.fails(Twin.STATE, r -> r.addVersion(0));
            // Each one begins without questions and legs, and is kept for 100 days.
            t.fails(Twin.STATE, r -> r.publish(0)).is(0, r -> r.addQuestion(0, version, 0, 99, 1));
            t.is(1, r -> r.addLeg(0, 0, 0, -1, 0, 1)).is(100, r -> r.setKeeping(0, 200 + version, -1, 0, 0));
            t.is(0, r -> r.publish(0)).is(version, r -> r.present(0));
            if (version < 3) {
                t.is(version + 1, r -> r.addVersion(0));
            }
        }
        t.fails(Twin.STATE, r -> r.addVersion(0)).fails(Twin.STATE, r -> r.addVersion(0));
        t.is(3, r -> r.present(0)).fails(Twin.STATE, r -> r.addQuestion(0, 9, 0, 9, 1));
        // Each form has its own four.
        t.is(1, r -> r.addForm()).is(0, r -> r.addQuestion(1, 9, 0, 9, 1)).is(0, r -> r.publish(1));
        t.is(1, r -> r.addVersion(1)).fails(Twin.STATE, r -> r.addVersion(0)).goesOnAlike();
    }

    private static void oneDraftAtMost() {
        Checks.promise(3);
        Twin t = draft(2).fails(Twin.STATE, r -> r.addVersion(0)).is(2, r -> r.addQuestion(0, 2, 0, 9, 1));
        t.is(0, r -> r.publish(0)).is(1, r -> r.addVersion(0)).fails(Twin.STATE, r -> r.addVersion(0));
        // The draft is the latest version, the present one is the one before.
        t.is(0, r -> r.present(0)).is(0, r -> r.addQuestion(0, 7, 0, 9, 1)).is(0, r -> r.start(0, 0));
        t.fails(Twin.BOUNDS, r -> r.isAsked(0, 3)).is(true, r -> r.isAsked(0, 2)).goesOnAlike();
    }

    private static void rangesOfPlainQuestions() {
        Checks.promise(4);
        Twin.range(0, 15, Twin.ARGUMENT, () -> draft(1), 1, meaning -> r -> r.addQuestion(0, meaning, 0, 9, 1));
        Twin.range(-999, 999, Twin.ARGUMENT, () -> draft(1), 1, least -> r -> r.addQuestion(0, 3, least, 999, 1));
        Twin.range(-999, 999, Twin.ARGUMENT, () -> draft(1), 1, same -> r -> r.addQuestion(0, 3, same, same, 1));
        for (int i : new int[] {-999, -1, 0, 1, 998, 999}) {
            int least = i;
            Twin.range(least, 999, Twin.ARGUMENT, () -> draft(1), 1, most -> r -> r.addQuestion(0, 3, least, most, 1));
        }
        Twin.range(1, 4, Twin.ARGUMENT, () -> draft(1), 1, most -> r -> r.addQuestion(0, 3, 0, 9, most));
        // The ranges are looked at when it is answered.
        Twin t = draft().is(0, r -> r.addQuestion(0, 0, -999, 999, 4)).is(1, r -> r.addQuestion(0, 1, 0, 0, 1));
        t.is(0, r -> r.publish(0)).is(0, r -> r.start(0, 0));
        t.outside(-999, 999, Twin.ARGUMENT, answer -> r -> r.answer(0, 0, answer)).goesOnAlike();
    }

    private static void eightQuestionsAtMost() {
        for (int computed = 0; computed < 8; computed++) {
            Twin t = draft(8 - computed);
            for (int i = 8 - computed; i < 8; i++) {
                int question = i;
                t.is(question, r -> r.addComputed(0, question, '+', 0, question - 1));
            }
            Checks.promise(4);
            t.fails(Twin.STATE, r -> r.addQuestion(0, 8, 0, 9, 1));
            Checks.promise(5);
            t.fails(Twin.STATE, r -> r.addComputed(0, 8, '+', 0, 0)).is(0, r -> r.publish(0));
            t.is(0, r -> r.start(0, 0)).is(true, r -> r.isAsked(0, 7)).fails(Twin.BOUNDS, r -> r.isAsked(0, 8));
            Checks.promise(4);
            t.is(1, r -> r.addVersion(0)).is(0, r -> r.addQuestion(0, 0, 0, 9, 1)).goesOnAlike();
        }
    }

    private static void orderForPlainQuestions() {
        Checks.promise(4);
        for (Twin t : new Twin[] {draft(8), published(1), published(8)}) {
            t.fails(Twin.STATE, r -> r.addQuestion(0, 9, 0, 9, 1));
            t.fails(Twin.ARGUMENT, r -> r.addQuestion(0, 16, 0, 9, 1));
            t.fails(Twin.ARGUMENT, r -> r.addQuestion(0, 9, -1000, 9, 1));
            t.fails(Twin.ARGUMENT, r -> r.addQuestion(0, 9, 1, 0, 1));
            t.fails(Twin.ARGUMENT, r -> r.addQuestion(0, 9, 0, 1000, 1));
            t.fails(Twin.ARGUMENT, r -> r.addQuestion(0, 9, 0, 9, 0));
            t.fails(Twin.BOUNDS, r -> r.addQuestion(1, 9, 0, 9, 1)).goesOnAlike();
        }
    }

    private static void rangesOfComputedQuestions() {
        Checks.promise(5);
        Twin.range(0, 15, Twin.ARGUMENT, () -> draft(1), 1, meaning -> r -> r.addComputed(0, meaning, '+', 0, 0));
        Twin.kinds("+-*lg", () -> draft(2), 2, kind -> r -> r.addComputed(0, 2, (char) kind, 0, 1));
        for (int i = 1; i < 8; i++) {
            int questions = i;
            // Of earlier questions only: not of itself.
            Twin.range(0, questions - 1, Twin.NO_ELEMENT, () -> draft(questions), questions,
                    first -> r -> r.addComputed(0, 9, '-', first, 0));
            Twin.range(0, questions - 1, Twin.NO_ELEMENT, () -> draft(questions), questions,
                    second -> r -> r.addComputed(0, 9, '-', 0, second));
            Twin.range(0, questions - 1, Twin.NO_ELEMENT, () -> draft(questions), questions,
                    both -> r -> r.addComputed(0, 9, '-', both, both));
        }
        draft().fails(Twin.NO_ELEMENT, r -> r.addComputed(0, 0, '+', 0, 0)).goesOnAlike();
        // The questions of the version before are none of its own.
        secondDraft(3, 1).fails(Twin.NO_ELEMENT, r -> r.addComputed(0, 1, '+', 0, 1)).goesOnAlike();
    }

    private static void orderForComputedQuestions() {
        Checks.promise(5);
        for (Twin t : new Twin[] {draft(8), published(1)}) {
            t.fails(Twin.STATE, r -> r.addComputed(0, 9, '+', 0, 0));
            t.fails(Twin.STATE, r -> r.addComputed(0, 9, '+', 0, 8));
            t.fails(Twin.STATE, r -> r.addComputed(0, 9, '+', -1, 0));
            t.fails(Twin.ARGUMENT, r -> r.addComputed(0, 16, '+', 0, 0));
            t.fails(Twin.ARGUMENT, r -> r.addComputed(0, 9, '/', 0, 8));
            t.fails(Twin.BOUNDS, r -> r.addComputed(-1, 9, '+', 0, 8)).goesOnAlike();
        }
        draft(2).fails(Twin.ARGUMENT, r -> r.addComputed(0, -1, '+', 2, 0))
                .fails(Twin.ARGUMENT, r -> r.addComputed(0, 2, 'G', 0, 2))
                .fails(Twin.NO_ELEMENT, r -> r.addComputed(0, 2, 'g', 0, 2)).goesOnAlike();
    }

    private static void rangesOfConditions() {
        Checks.promise(6);
        Twin.kinds("><=", () -> draft(2), 1, kind -> r -> r.setCondition(0, 1, 0, (char) kind, 0));
        for (char kind : "><=".toCharArray()) {
            Twin.range(-9999, 9999, Twin.ARGUMENT, () -> draft(2), 1,
                    bound -> r -> r.setCondition(0, 1, 0, kind, bound));
        }
        for (int i = 2; i < 9; i++) {
            int last = i - 1;
            Twin t = draft(last + 1);
            t.outside(0, last, Twin.NO_ELEMENT, question -> r -> r.setCondition(0, question, 0, '>', 0));
            t.outside(0, last, Twin.NO_ELEMENT, other -> r -> r.setCondition(0, last, other, '>', 0));
            t.outside(0, last, Twin.NO_ELEMENT, both -> r -> r.setCondition(0, both, both, '>', 0)).goesOnAlike();
        }
        draft().fails(Twin.NO_ELEMENT, r -> r.setCondition(0, 0, 0, '>', 0)).goesOnAlike();
        secondDraft(3, 2).fails(Twin.NO_ELEMENT, r -> r.setCondition(0, 2, 0, '>', 0)).goesOnAlike();
    }

    private static void earlierQuestionsOnly() {
        Checks.promise(6);
        Twin t = draft(7).is(7, r -> r.addComputed(0, 7, '+', 0, 1));
        for (int i = 0; i < 8; i++) {
            for (int j = 0; j < 8; j++) {
                int question = i;
                int other = j;
                if (question == 7 || other >= question) {
                    t.fails(Twin.UNSUPPORTED, r -> r.setCondition(0, question, other, '>', 0));
                }
            }
        }
        for (int i = 1; i < 7; i++) {
            int question = i;
            t.is(question, r -> r.setCondition(0, question, question - 1, '>', 0));
            t.fails(Twin.UNSUPPORTED, r -> r.setCondition(0, question, question, '<', 0));
            t.is(question, r -> r.setCondition(0, question, 0, '>', 0));
        }
        t.goesOnAlike();
        // It may depend on a computed question.
        draft(2).is(2, r -> r.addComputed(0, 2, '+', 0, 1)).is(3, r -> r.addQuestion(0, 3, 0, 9, 1))
                .is(1, r -> r.setCondition(0, 3, 2, '>', 0)).goesOnAlike();
    }

    private static void orderForConditions() {
        Checks.promise(6);
        Twin t = published(2);
        t.fails(Twin.STATE, r -> r.setCondition(0, 1, 0, '>', 0)).fails(Twin.STATE, r -> r.setCondition(0, 9, 0, '>', 0));
        t.fails(Twin.STATE, r -> r.setCondition(0, 1, -1, '>', 0)).fails(Twin.STATE, r -> r.setCondition(0, 1, 1, '>', 0));
        t.fails(Twin.ARGUMENT, r -> r.setCondition(0, 1, 0, '!', 0));
        t.fails(Twin.ARGUMENT, r -> r.setCondition(0, 9, 9, '>', 10000));
        t.fails(Twin.BOUNDS, r -> r.setCondition(1, 1, 0, '>', 0)).goesOnAlike();
        Twin s = draft(2).is(2, r -> r.addComputed(0, 2, '+', 0, 1));
        s.fails(Twin.ARGUMENT, r -> r.setCondition(0, 3, 0, '>', -10000));
        s.fails(Twin.ARGUMENT, r -> r.setCondition(0, 2, 0, '+', 0));
        s.fails(Twin.ARGUMENT, r -> r.setCondition(0, 0, 1, ' ', 0));
        s.fails(Twin.NO_ELEMENT, r -> r.setCondition(0, 2, 3, '>', 0));
        s.fails(Twin.NO_ELEMENT, r -> r.setCondition(0, 2, -1, '>', 0));
        s.fails(Twin.NO_ELEMENT, r -> r.setCondition(0, 3, 4, '>', 0));
        s.fails(Twin.NO_ELEMENT, r -> r.setCondition(0, 0, 3, '>', 0));
        s.fails(Twin.UNSUPPORTED, r -> r.setCondition(0, 2, 2, '>', 0)).goesOnAlike();
    }

    private static void aConditionInPlaceOfAnother() {
        Checks.promise(6);
        Twin t = draft(3).is(1, r -> r.setCondition(0, 2, 0, '>', 5)).is(1, r -> r.setCondition(0, 2, 1, '<', 7));
        // A refused one leaves the one that is there.
        t.fails(Twin.ARGUMENT, r -> r.setCondition(0, 2, 0, '=', 10000));
        t.fails(Twin.UNSUPPORTED, r -> r.setCondition(0, 2, 2, '=', 1));
        t.fails(Twin.NO_ELEMENT, r -> r.setCondition(0, 2, 3, '=', 1));
        t.is(0, r -> r.publish(0)).is(0, r -> r.start(0, 0)).is(1, r -> r.answer(0, 0, 5));
        t.is(false, r -> r.isAsked(0, 2)).is(1, r -> r.answer(0, 1, 8)).is(false, r -> r.isAsked(0, 2));
        t.is(8, r -> r.takeBack(0, 1)).is(1, r -> r.answer(0, 1, 7)).is(true, r -> r.isAsked(0, 2));
        t.goesOnAlike();
    }

    private static void rangesOfMaps() {
        Checks.promise(7);
        Twin.kinds("=+*/", () -> secondDraft(1, 1), 1, kind -> r -> r.setMap(0, 0, 0, (char) kind, 1));
        for (char kind : "=+*/".toCharArray()) {
            Twin.range(-99, 99, Twin.ARGUMENT, () -> secondDraft(1, 1), 1, number -> r -> r.setMap(0, 0, 0, kind, number));
        }
        for (char kind : "=+*".toCharArray()) {
            secondDraft(1, 1).is(1, r -> r.setMap(0, 0, 0, kind, 0)).goesOnAlike();
        }
        secondDraft(1, 1).fails(Twin.ARGUMENT, r -> r.setMap(0, 0, 0, '/', 0)).is(1, r -> r.setMap(0, 0, 0, '/', 1))
                .is(1, r -> r.setMap(0, 0, 0, '/', -1)).goesOnAlike();
        // The version before may have more questions, or fewer ones.
        for (int i = 1; i < 9; i++) {
            int questions = i;
            Twin.range(0, questions - 1, Twin.NO_ELEMENT, () -> secondDraft(2, questions), 1,
                    question -> r -> r.setMap(0, question, 1, '=', 0));
            Twin.range(0, questions - 1, Twin.NO_ELEMENT, () -> secondDraft(questions, 2), 1,
                    from -> r -> r.setMap(0, 1, from, '=', 0));
        }
        published(1).is(1, r -> r.addVersion(0)).fails(Twin.NO_ELEMENT, r -> r.setMap(0, 0, 0, '=', 0)).goesOnAlike();
    }

    private static void versionsOfMaps() {
        Checks.promise(7);
        draft(1).fails(Twin.STATE, r -> r.setMap(0, 0, 0, '=', 0)).goesOnAlike();
        draft().fails(Twin.STATE, r -> r.setMap(0, 0, 0, '=', 0)).goesOnAlike();
        published(1).fails(Twin.STATE, r -> r.setMap(0, 0, 0, '=', 0)).goesOnAlike();
        Twin t = secondDraft(1, 1).is(1, r -> r.setMap(0, 0, 0, '=', 0)).is(0, r -> r.publish(0));
        t.fails(Twin.STATE, r -> r.setMap(0, 0, 0, '=', 0));
        // Another form is still in its version 0.
        t.is(1, r -> r.addForm()).is(0, r -> r.addQuestion(1, 1, 0, 9, 1));
        t.fails(Twin.STATE, r -> r.setMap(1, 0, 0, '=', 0)).goesOnAlike();
    }

    private static void orderForMaps() {
        Checks.promise(7);
        for (Twin t : new Twin[] {draft(2), published(2)}) {
            t.fails(Twin.STATE, r -> r.setMap(0, 0, 0, '=', 0)).fails(Twin.STATE, r -> r.setMap(0, 2, 0, '=', 0));
            t.fails(Twin.STATE, r -> r.setMap(0, 0, 9, '=', 0)).fails(Twin.ARGUMENT, r -> r.setMap(0, 0, 0, '-', 0));
            t.fails(Twin.ARGUMENT, r -> r.setMap(0, 0, 0, '/', 0)).fails(Twin.ARGUMENT, r -> r.setMap(0, 9, 9, '=', 100));
            t.fails(Twin.BOUNDS, r -> r.setMap(1, 0, 0, '=', 0)).goesOnAlike();
        }
        Twin t = secondDraft(2, 1).is(1, r -> r.addComputed(0, 1, '+', 0, 0));
        t.fails(Twin.UNSUPPORTED, r -> r.setMap(0, 1, 0, '=', 0)).fails(Twin.NO_ELEMENT, r -> r.setMap(0, 1, 2, '=', 0));
        t.fails(Twin.NO_ELEMENT, r -> r.setMap(0, 1, -1, '=', 0)).fails(Twin.NO_ELEMENT, r -> r.setMap(0, 2, 0, '=', 0));
        t.fails(Twin.ARGUMENT, r -> r.setMap(0, 1, 0, '/', 0)).fails(Twin.ARGUMENT, r -> r.setMap(0, 1, 0, '=', -100));
        t.fails(Twin.ARGUMENT, r -> r.setMap(0, 2, 2, '%', 1)).goesOnAlike();
    }

    private static void aMapInPlaceOfAnother() {
        Checks.promise(7);
        Twin t = secondDraft(2, 2).is(1, r -> r.setMap(0, 0, 0, '+', 1)).is(2, r -> r.setMap(0, 1, 0, '=', 0));
        t.is(2, r -> r.setMap(0, 0, 1, '*', 3)).fails(Twin.ARGUMENT, r -> r.setMap(0, 0, 0, '/', 0));
        t.fails(Twin.NO_ELEMENT, r -> r.setMap(0, 0, 2, '+', 7));
        t.is(0, r -> r.start(0, 0)).is(1, r -> r.answer(0, 0, 5)).is(1, r -> r.answer(0, 1, 8)).is(0, r -> r.publish(0));
        t.is(24, r -> r.carried(0, 0)).is(5, r -> r.carried(0, 1)).goesOnAlike();
    }

    private static void rangesOfLegs() {
        Checks.promise(8);
        Twin.range(0, 2, Twin.ARGUMENT, () -> draft(2), 1, stage -> r -> r.addLeg(0, stage, 0, -1, 0, 0));
        Twin.range(0, 5, Twin.ARGUMENT, () -> draft(2), 1, desk -> r -> r.addLeg(0, 0, desk, -1, 0, 0));
        Twin.range(-9999, 9999, Twin.ARGUMENT, () -> draft(2), 1, bound -> r -> r.addLeg(0, 0, 0, 1, bound, 0));
        // The bound is looked at without a question, too.
        Twin.range(-9999, 9999, Twin.ARGUMENT, () -> draft(2), 1, bound -> r -> r.addLeg(0, 0, 0, -1, bound, 0));
        Twin.range(0, 60, Twin.ARGUMENT, () -> draft(2), 1, patience -> r -> r.addLeg(0, 0, 0, -1, 0, patience));
        for (int i = 0; i < 9; i++) {
            int questions = i;
            Twin.range(-1, questions - 1, Twin.NO_ELEMENT, () -> draft(questions), 1,
                    question -> r -> r.addLeg(0, 0, 0, question, 0, 0));
        }
        secondDraft(3, 1).fails(Twin.NO_ELEMENT, r -> r.addLeg(0, 0, 0, 1, 0, 0)).goesOnAlike();
    }

    private static void sixLegsAtMost() {
        Checks.promise(8);
        Twin t = draft(1);
        for (int i = 0; i < 6; i++) {
            int leg = i;
            t.is(leg + 1, r -> r.addLeg(0, leg % 3, leg, -1, 0, 0));
        }
        t.fails(Twin.STATE, r -> r.addLeg(0, 0, 1, -1, 0, 0)).fails(Twin.STATE, r -> r.addLeg(0, 2, 2, -1, 0, 0));
        t.fails(Twin.STATE, r -> r.addLeg(0, 1, 0, 0, 0, 0)).is(0, r -> r.publish(0));
        // Each version has its own six.
        t.is(1, r -> r.addVersion(0)).is(1, r -> r.addLeg(0, 0, 0, -1, 0, 0)).goesOnAlike();
        // Six legs at one stage.
        Twin s = draft(1);
        for (int i = 0; i < 6; i++) {
            int leg = i;
            s.is(leg + 1, r -> r.addLeg(0, 2, leg, -1, 0, 0));
        }
        s.is(0, r -> r.publish(0)).is(0, r -> r.start(0, 0)).is(1, r -> r.answer(0, 0, 1)).is(6, r -> r.submit(0));
        s.goesOnAlike();
    }

    private static void everyStageAndDeskOnce() {
        Checks.promise(8);
        for (int i = 0; i < 18; i++) {
            int stage = i % 3;
            int desk = i / 3;
            Twin t = draft(1).is(1, r -> r.addLeg(0, stage, desk, -1, 0, 0));
            t.fails(Twin.STATE, r -> r.addLeg(0, stage, desk, -1, 0, 0));
            t.fails(Twin.STATE, r -> r.addLeg(0, stage, desk, 0, 7, 9));
            t.is(2, r -> r.addLeg(0, (stage + 1) % 3, desk, -1, 0, 0));
            t.is(3, r -> r.addLeg(0, stage, (desk + 1) % 6, -1, 0, 0)).goesOnAlike();
        }
    }

    private static void orderForLegs() {
        Checks.promise(8);
        Twin full = draft(1);
        for (int i = 0; i < 6; i++) {
            int desk = i;
            full.does(r -> r.addLeg(0, 0, desk, -1, 0, 0));
        }
        Twin taken = draft(1).does(r -> r.addLeg(0, 1, 1, -1, 0, 0));
        for (Twin t : new Twin[] {full, taken, published(1)}) {
            t.fails(Twin.STATE, r -> r.addLeg(0, 1, 1, -1, 0, 0)).fails(Twin.STATE, r -> r.addLeg(0, 1, 1, 1, 0, 0));
            t.fails(Twin.STATE, r -> r.addLeg(0, 1, 1, -2, 0, 0)).fails(Twin.ARGUMENT, r -> r.addLeg(0, 3, 1, -1, 0, 0));
            t.fails(Twin.ARGUMENT, r -> r.addLeg(0, 1, 6, -1, 0, 0));
            t.fails(Twin.ARGUMENT, r -> r.addLeg(0, 1, 1, 9, 10000, 0));
            t.fails(Twin.ARGUMENT, r -> r.addLeg(0, 1, 1, -1, 0, 61)).fails(Twin.BOUNDS, r -> r.addLeg(1, 1, 1, -1, 0, 0));
            t.goesOnAlike();
        }
        draft(1).fails(Twin.ARGUMENT, r -> r.addLeg(0, 0, 0, 1, 0, -1)).fails(Twin.ARGUMENT, r -> r.addLeg(0, -1, 0, -2, 0, 0))
                .fails(Twin.NO_ELEMENT, r -> r.addLeg(0, 0, 0, 1, 0, 0)).is(1, r -> r.addLeg(0, 0, 0, 0, 0, 0)).goesOnAlike();
    }

    private static void rangesOfKeeping() {
        Checks.promise(9);
        Twin.range(1, 400, Twin.ARGUMENT, () -> draft(2), 100, days -> r -> r.setKeeping(0, days, -1, 0, 0));
        Twin.range(-9999, 9999, Twin.ARGUMENT, () -> draft(2), 100, bound -> r -> r.setKeeping(0, 5, 1, bound, 5));
        Twin.range(-9999, 9999, Twin.ARGUMENT, () -> draft(2), 100, bound -> r -> r.setKeeping(0, 5, -1, bound, 5));
        Twin.range(0, 400, Twin.ARGUMENT, () -> draft(2), 100, longer -> r -> r.setKeeping(0, 5, 0, 0, longer));
        Twin.range(0, 400, Twin.ARGUMENT, () -> draft(2), 100, longer -> r -> r.setKeeping(0, 5, -1, 0, longer));
        for (int i = 0; i < 9; i++) {
            int questions = i;
            Twin.range(-1, questions - 1, Twin.NO_ELEMENT, () -> draft(questions), 100,
                    question -> r -> r.setKeeping(0, 5, question, 0, 5));
        }
        Twin t = draft(1).is(100, r -> r.setKeeping(0, 1, 0, 9999, 400)).is(1, r -> r.setKeeping(0, 400, -1, 0, 0));
        t.fails(Twin.ARGUMENT, r -> r.setKeeping(0, 401, -1, 0, 0)).fails(Twin.NO_ELEMENT, r -> r.setKeeping(0, 7, 1, 0, 0));
        t.is(400, r -> r.setKeeping(0, 400, -1, 0, 0)).is(400, r -> r.setKeeping(0, 8, -1, 0, 0)).is(0, r -> r.publish(0));
        t.is(1, r -> r.addVersion(0)).is(100, r -> r.setKeeping(0, 9, -1, 0, 0)).goesOnAlike();
    }

    private static void orderForKeeping() {
        Checks.promise(9);
        Twin t = published(1).fails(Twin.STATE, r -> r.setKeeping(0, 5, -1, 0, 0));
        t.fails(Twin.STATE, r -> r.setKeeping(0, 5, 1, 0, 0)).fails(Twin.STATE, r -> r.setKeeping(0, 5, -2, 0, 0));
        t.fails(Twin.ARGUMENT, r -> r.setKeeping(0, 0, -1, 0, 0)).fails(Twin.ARGUMENT, r -> r.setKeeping(0, 5, 1, -10000, 0));
        t.fails(Twin.ARGUMENT, r -> r.setKeeping(0, 5, 1, 0, 401)).fails(Twin.BOUNDS, r -> r.setKeeping(1, 5, -1, 0, 0));
        t.goesOnAlike();
        draft(1).fails(Twin.ARGUMENT, r -> r.setKeeping(0, 401, 1, 0, 0)).fails(Twin.ARGUMENT, r -> r.setKeeping(0, 5, 1, 0, -1))
                .fails(Twin.ARGUMENT, r -> r.setKeeping(0, 5, -2, 10000, 0)).goesOnAlike();
    }

    private static void refusedDrafts() {
        Checks.promise(10);
        // Without questions, though with a leg and days of keeping.
        Twin t = draft().is(1, r -> r.addLeg(0, 0, 0, -1, 0, 0)).is(100, r -> r.setKeeping(0, 5, -1, 0, 0));
        t.fails(Twin.STATE, r -> r.publish(0)).fails(Twin.NO_ELEMENT, r -> r.present(0));
        t.is(0, r -> r.addQuestion(0, 0, 0, 9, 1)).is(0, r -> r.publish(0)).is(0, r -> r.present(0));
        t.fails(Twin.STATE, r -> r.publish(0)).is(1, r -> r.addVersion(0)).fails(Twin.STATE, r -> r.publish(0));
        t.is(0, r -> r.present(0)).is(0, r -> r.addQuestion(0, 1, 0, 9, 1)).is(0, r -> r.publish(0));
        t.is(1, r -> r.present(0)).fails(Twin.STATE, r -> r.publish(0)).goesOnAlike();
    }

    private static void meaningsThatAreThereTwice() {
        Checks.promise(10);
        for (int i = 1; i < 8; i++) {
            int last = i;
            for (int j = 0; j < last; j++) {
                int twice = j;
                Twin t = draft(last).is(last, r -> r.addQuestion(0, twice, 0, 9, 1));
                t.fails(Twin.UNSUPPORTED, r -> r.publish(0)).fails(Twin.NO_ELEMENT, r -> r.present(0));
                t.fails(Twin.NO_ELEMENT, r -> r.owner(twice)).fails(Twin.STATE, r -> r.addVersion(0));
            }
        }
        draft(1).is(1, r -> r.addComputed(0, 0, '+', 0, 0)).fails(Twin.UNSUPPORTED, r -> r.publish(0)).goesOnAlike();
        draft(1).is(1, r -> r.addComputed(0, 1, '+', 0, 0)).is(0, r -> r.publish(0)).goesOnAlike();
        // Refused, the draft is still a draft and can be made greater.
        Twin t = draft(1).is(1, r -> r.addQuestion(0, 0, 0, 9, 1)).fails(Twin.UNSUPPORTED, r -> r.publish(0));
        t.is(2, r -> r.addQuestion(0, 2, 0, 9, 1)).fails(Twin.UNSUPPORTED, r -> r.publish(0)).goesOnAlike();
        // The same meaning in another version of the form is no second one.
        secondDraft(8, 8).is(0, r -> r.publish(0)).goesOnAlike();
    }

    private static void meaningsOfOtherForms() {
        Checks.promise(10);
        for (int i = 0; i < 8; i++) {
            int foreign = i;
            Twin t = published(8).is(1, r -> r.addForm());
            for (int j = 0; j < 8; j++) {
                int question = j;
                t.is(question, r -> r.addQuestion(1, question == foreign ? foreign : 8 + question, 0, 9, 1));
            }
            t.fails(Twin.UNSUPPORTED, r -> r.publish(1)).fails(Twin.NO_ELEMENT, r -> r.present(1));
            // Nothing of the refused draft is owned.
            t.fails(Twin.NO_ELEMENT, r -> r.owner(foreign == 7 ? 8 : 15)).is(0, r -> r.owner(foreign)).goesOnAlike();
        }
        // A draft owns nothing: the first one to publish does.
        Twin t = draft(1).is(1, r -> r.addForm()).is(0, r -> r.addQuestion(1, 0, 0, 9, 1));
        t.fails(Twin.NO_ELEMENT, r -> r.owner(0)).is(0, r -> r.publish(1)).is(1, r -> r.owner(0));
        t.fails(Twin.UNSUPPORTED, r -> r.publish(0)).is(1, r -> r.owner(0)).goesOnAlike();
        // All sixteen meanings: of two forms with eight each, and none is left for a third one.
        Twin s = published(8).is(1, r -> r.addForm()).is(2, r -> r.addForm());
        for (int i = 0; i < 8; i++) {
            int question = i;
            s.is(question, r -> r.addQuestion(1, 8 + question, 0, 9, 1));
        }
        s.is(0, r -> r.publish(1)).is(0, r -> r.addQuestion(2, 15, 0, 9, 1)).fails(Twin.UNSUPPORTED, r -> r.publish(2));
        s.is(0, r -> r.owner(7)).is(1, r -> r.owner(8)).is(1, r -> r.owner(15)).goesOnAlike();
    }

    /** Six people with eight values each that are no more, and eight new ones each. */
    private static void valuesThatPublishingChanges() {
        Checks.promise(10);
        Twin t = published(8);
        for (int i = 0; i < 6; i++) {
            int person = i;
            t.is(person, r -> r.start(person, 0));
            for (int j = 0; j < 8; j++) {
                int question = j;
                t.is(1, r -> r.answer(person, question, person + question));
            }
            t.is(0, r -> r.submit(person));
        }
        t.is(1, r -> r.addVersion(0));
        for (int i = 0; i < 8; i++) {
            int question = i;
            t.is(question, r -> r.addQuestion(0, 8 + question, 0, 99, 1));
            t.is(question + 1, r -> r.setMap(0, question, question, '=', 0));
        }
        t.is(96, r -> r.publish(0)).is(12, r -> r.record(5, 15)).fails(Twin.NO_ELEMENT, r -> r.record(5, 7));
        t.is(2, r -> r.addVersion(0));
        for (int i = 0; i < 8; i++) {
            int question = i;
            t.is(question, r -> r.addQuestion(0, 8 + question, 0, 99, 1));
            t.is(question + 1, r -> r.setMap(0, question, question, '*', 2));
        }
        // All are other ones but that of the person 0 for the question 0, which is 0 as before.
        t.is(47, r -> r.publish(0)).is(24, r -> r.record(5, 15)).is(0, r -> r.record(0, 8));
        t.is(3, r -> r.addVersion(0)).is(0, r -> r.addQuestion(0, 0, 0, 99, 1)).is(48, r -> r.publish(0));
        t.fails(Twin.NO_ELEMENT, r -> r.record(5, 15)).fails(Twin.STATE, r -> r.publish(0)).goesOnAlike();
    }

    private static void presentVersions() {
        Checks.promise(11);
        Twin t = draft(1).is(1, r -> r.addForm()).fails(Twin.NO_ELEMENT, r -> r.present(0));
        t.is(0, r -> r.publish(0)).is(0, r -> r.present(0)).fails(Twin.NO_ELEMENT, r -> r.present(1));
        t.fails(Twin.BOUNDS, r -> r.present(2)).fails(Twin.BOUNDS, r -> r.present(-1)).goesOnAlike();
    }

    private static void owners() {
        Checks.promise(12);
        Twin t = draft(1).is(1, r -> r.addQuestion(0, 15, 0, 9, 1)).is(0, r -> r.publish(0));
        t.is(0, r -> r.owner(0)).is(0, r -> r.owner(15)).fails(Twin.NO_ELEMENT, r -> r.owner(1));
        t.fails(Twin.NO_ELEMENT, r -> r.owner(14));
        t.outside(0, 15, Twin.ARGUMENT, meaning -> r -> r.owner(meaning)).goesOnAlike();
        // A meaning stays with its owner when its later versions are without it.
        Twin s = secondDraft(1, 0).is(0, r -> r.addQuestion(0, 5, 0, 9, 1)).is(0, r -> r.publish(0));
        s.is(0, r -> r.owner(0)).is(0, r -> r.owner(5)).goesOnAlike();
    }

    private static void rangesOfSubstitutes() {
        Checks.promise(13);
        for (int i = 0; i < 6; i++) {
            int desk = i;
            int another = (desk + 1) % 6;
            Twin t = new Twin().outside(0, 5, Twin.BOUNDS, wrong -> r -> r.setSubstitute(wrong, desk));
            t.outside(0, 5, Twin.BOUNDS, wrong -> r -> r.setSubstitute(wrong, -1));
            t.outside(-1, 5, Twin.BOUNDS, wrong -> r -> r.setSubstitute(desk, wrong));
            t.is(-1, r -> r.setSubstitute(desk, -1)).fails(Twin.ARGUMENT, r -> r.setSubstitute(desk, desk));
            t.is(-1, r -> r.setSubstitute(desk, another)).fails(Twin.ARGUMENT, r -> r.setSubstitute(desk, desk));
            t.is(another, r -> r.setSubstitute(desk, another)).is(another, r -> r.setSubstitute(desk, -1));
            t.is(-1, r -> r.setSubstitute(desk, -1)).goesOnAlike();
        }
        // No such desk comes before the same one.
        for (int wrong : new int[] {MIN, -2, -1, 6, 7, MAX}) {
            new Twin().fails(Twin.BOUNDS, r -> r.setSubstitute(wrong, wrong)).goesOnAlike();
        }
    }

    private static void rowsOfSubstitutes() {
        Checks.promise(13);
        for (int i = 2; i < 7; i++) {
            int desks = i;
            Twin t = new Twin();
            for (int j = 0; j < desks - 1; j++) {
                int desk = j;
                t.is(-1, r -> r.setSubstitute(desk, desk + 1));
            }
            for (int j = 0; j < desks - 1; j++) {
                int desk = j;
                t.fails(Twin.UNSUPPORTED, r -> r.setSubstitute(desks - 1, desk));
                // The same one comes before the row that would come back.
                t.fails(Twin.ARGUMENT, r -> r.setSubstitute(desk, desk));
            }
            if (desks < 6) {
                t.is(-1, r -> r.setSubstitute(desks, 0)).fails(Twin.UNSUPPORTED, r -> r.setSubstitute(desks - 1, desks));
            }
            // Cut in the middle, the row does not come back.
            t.is(1, r -> r.setSubstitute(0, -1)).is(-1, r -> r.setSubstitute(desks - 1, 0)).goesOnAlike();
        }
        // A desk may change its substitute along its own row, and come nearer to its end.
        Twin t = new Twin().is(-1, r -> r.setSubstitute(0, 1)).is(-1, r -> r.setSubstitute(1, 2));
        t.is(1, r -> r.setSubstitute(0, 2)).is(2, r -> r.setSubstitute(1, 0)).fails(Twin.UNSUPPORTED, r -> r.setSubstitute(2, 1));
        t.fails(Twin.UNSUPPORTED, r -> r.setSubstitute(0, 1)).is(-1, r -> r.setSubstitute(3, 1)).goesOnAlike();
    }

    private FormBoundsTest() {
    }
}

/** Promises 1 to 13: forms, versions, questions, legs, keeping, publishing and substitutes. */
public final class FormsTest {
    public static void main(String[] args) {
        newObject();
        formsAndVersions();
        plainQuestions();
        computedQuestions();
        conditions();
        maps();
        legs();
        keeping();
        publishing();
        publishingChangesRecords();
        presentAndOwner();
        substitutes();
        Checks.end();
    }

    private static void newObject() {
        Checks.promise(1);
        FormRiver r = new FormRiver();
        Checks.is(0, r.day());
        Checks.fails(Checks.BOUNDS, () -> r.addVersion(0));
        Checks.fails(Checks.BOUNDS, () -> r.present(0));
        Checks.fails(Checks.BOUNDS, () -> r.state(0));
        Checks.fails(Checks.ARITHMETIC, () -> r.acceptedShare());
        for (int meaning = 0; meaning < 16; meaning++) {
            int m = meaning;
            Checks.fails(Checks.NO_ELEMENT, () -> r.owner(m));
            Checks.is(0, r.total(m));
            Checks.is(0, r.totalAnew(m));
            Checks.is(0, r.counted(m));
        }
        for (int person = 0; person < 6; person++) {
            int p = person;
            Checks.fails(Checks.NO_ELEMENT, () -> r.record(p, 3));
            Checks.is(true, r.isSound(p));
            Checks.is(false, r.hold(p, false));
        }
        for (int desk = 0; desk < 6; desk++) {
            Checks.is(-1, r.setSubstitute(desk, -1));
        }
    }

    private static void formsAndVersions() {
        Checks.promise(2);
        FormRiver r = new FormRiver();
        Checks.is(0, r.addForm());
        Checks.fails(Checks.STATE, () -> r.publish(0));
        Checks.is(1, r.addForm());
        Checks.is(2, r.addForm());
        Checks.fails(Checks.STATE, () -> r.addForm());
        Checks.fails(Checks.BOUNDS, () -> r.addVersion(3));

        Checks.promise(3);
        Checks.fails(Checks.BOUNDS, () -> r.addVersion(-1));
        Checks.fails(Checks.STATE, () -> r.addVersion(0));
        for (int version = 1; version < 4; version++) {
            r.addQuestion(0, 0, 0, 9, 1);
            r.addLeg(0, 0, 0, -1, 0, 0);
            r.publish(0);
            Checks.is(version, r.addVersion(0));
            Checks.fails(Checks.STATE, () -> r.addVersion(0));
            Checks.fails(Checks.STATE, () -> r.publish(0));
        }
        Checks.is(0, r.addQuestion(0, 0, 0, 9, 1));
        r.publish(0);
        Checks.fails(Checks.STATE, () -> r.addVersion(0));
        r.start(0, 0);
        r.answer(0, 0, 3);
        Checks.is(0, r.submit(0));
        Checks.is(100, r.lastDay(0));
    }

    private static void plainQuestions() {
        Checks.promise(4);
        FormRiver r = new FormRiver();
        r.addForm();
        Checks.fails(Checks.BOUNDS, () -> r.addQuestion(1, -1, 0, 9, 1));
        Checks.fails(Checks.BOUNDS, () -> r.addQuestion(-1, 0, 0, 9, 1));
        Checks.fails(Checks.ARGUMENT, () -> r.addQuestion(0, -1, 0, 9, 1));
        Checks.fails(Checks.ARGUMENT, () -> r.addQuestion(0, 16, 0, 9, 1));
        Checks.fails(Checks.ARGUMENT, () -> r.addQuestion(0, 0, -1000, 9, 1));
        Checks.fails(Checks.ARGUMENT, () -> r.addQuestion(0, 0, 1000, 1000, 1));
        Checks.fails(Checks.ARGUMENT, () -> r.addQuestion(0, 0, 5, 4, 1));
        Checks.fails(Checks.ARGUMENT, () -> r.addQuestion(0, 0, 0, 1000, 1));
        Checks.fails(Checks.ARGUMENT, () -> r.addQuestion(0, 0, 0, 9, 0));
        Checks.fails(Checks.ARGUMENT, () -> r.addQuestion(0, 0, 0, 9, 5));
        Checks.is(0, r.addQuestion(0, 0, -999, 999, 4));
        Checks.is(1, r.addQuestion(0, 15, 999, 999, 1));
        Checks.is(2, r.addQuestion(0, 1, -999, -999, 1));
        for (int question = 3; question < 8; question++) {
            Checks.is(question, r.addQuestion(0, question, 5, 5, 2));
        }
        Checks.fails(Checks.STATE, () -> r.addQuestion(0, 9, 0, 9, 1));
        Checks.fails(Checks.ARGUMENT, () -> r.addQuestion(0, 9, 0, 9, 7));
        r.publish(0);
        Checks.fails(Checks.STATE, () -> r.addQuestion(0, 9, 0, 9, 1));
        Checks.fails(Checks.ARGUMENT, () -> r.addQuestion(0, 99, 0, 9, 1));
        r.start(0, 0);
        Checks.is(true, r.isAsked(0, 7));
        Checks.is(1, r.answer(0, 0, -999));
        Checks.is(2, r.answer(0, 0, 999));
        Checks.is(3, r.answer(0, 0, 0));
        Checks.is(4, r.answer(0, 0, 999));
        Checks.fails(Checks.ARGUMENT, () -> r.answer(0, 0, 1));
        Checks.fails(Checks.ARGUMENT, () -> r.answer(0, 3, 4));
        Checks.fails(Checks.ARGUMENT, () -> r.answer(0, 3, 6));
        Checks.is(1, r.answer(0, 3, 5));
    }

    private static void computedQuestions() {
        Checks.promise(5);
        FormRiver r = new FormRiver();
        r.addForm();
        Checks.fails(Checks.NO_ELEMENT, () -> r.addComputed(0, 0, '+', 0, 0));
        r.addQuestion(0, 0, -999, 999, 4);
        r.addQuestion(0, 1, -999, 999, 4);
        Checks.fails(Checks.BOUNDS, () -> r.addComputed(1, 99, '?', 7, 7));
        Checks.fails(Checks.BOUNDS, () -> r.addComputed(-1, 2, '+', 0, 0));
        Checks.fails(Checks.ARGUMENT, () -> r.addComputed(0, 16, '+', 0, 0));
        Checks.fails(Checks.ARGUMENT, () -> r.addComputed(0, -1, '+', 0, 0));
        Checks.fails(Checks.ARGUMENT, () -> r.addComputed(0, 2, '/', 0, 0));
        Checks.fails(Checks.ARGUMENT, () -> r.addComputed(0, 2, ' ', 0, 0));
        Checks.fails(Checks.ARGUMENT, () -> r.addComputed(0, 2, 'L', 9, 9));
        Checks.fails(Checks.NO_ELEMENT, () -> r.addComputed(0, 2, '+', 2, 0));
        Checks.fails(Checks.NO_ELEMENT, () -> r.addComputed(0, 2, '+', 0, 2));
        Checks.fails(Checks.NO_ELEMENT, () -> r.addComputed(0, 2, '+', -1, 0));
        Checks.fails(Checks.NO_ELEMENT, () -> r.addComputed(0, 2, '+', 0, -1));
        // Meanings may be there twice until the draft is published.
        Checks.is(2, r.addComputed(0, 15, '+', 0, 1));
        Checks.is(3, r.addComputed(0, 3, '-', 0, 1));
        Checks.is(4, r.addComputed(0, 4, '*', 0, 1));
        Checks.is(5, r.addComputed(0, 5, 'l', 0, 1));
        Checks.is(6, r.addComputed(0, 6, 'g', 0, 1));
        Checks.is(7, r.addComputed(0, 7, '*', 4, 4));
        Checks.fails(Checks.STATE, () -> r.addComputed(0, 8, '+', 8, 8));
        r.publish(0);
        Checks.fails(Checks.STATE, () -> r.addComputed(0, 8, '+', 0, 0));
        r.start(0, 0);
        r.answer(0, 0, 12);
        Checks.fails(Checks.NO_ELEMENT, () -> r.value(0, 2));
        r.answer(0, 1, -20);
        r.answer(0, 1, 13);
        Checks.is(5, r.value(0, 2));
        Checks.is(19, r.value(0, 3));
        Checks.is(-84, r.value(0, 4));
        Checks.is(-7, r.value(0, 5));
        Checks.is(12, r.value(0, 6));
        Checks.is(7056, r.value(0, 7));
        r.answer(0, 0, 999);
        r.answer(0, 0, 999);
        Checks.is(-9999, r.value(0, 4));
        Checks.is(9999, r.value(0, 7));
    }

    private static void conditions() {
        Checks.promise(6);
        FormRiver r = new FormRiver();
        r.addForm();
        r.addQuestion(0, 0, -9, 9, 2);
        r.addQuestion(0, 1, 0, 9, 1);
        r.addComputed(0, 2, '+', 0, 1);
        r.addQuestion(0, 3, 0, 9, 1);
        Checks.fails(Checks.BOUNDS, () -> r.setCondition(1, 1, 0, '>', 0));
        Checks.fails(Checks.BOUNDS, () -> r.setCondition(-1, 1, 0, '?', 0));
        Checks.fails(Checks.ARGUMENT, () -> r.setCondition(0, 1, 0, '!', 0));
        Checks.fails(Checks.ARGUMENT, () -> r.setCondition(0, 1, 0, '>', 10000));
        Checks.fails(Checks.ARGUMENT, () -> r.setCondition(0, 9, 0, '>', -10000));
        Checks.fails(Checks.NO_ELEMENT, () -> r.setCondition(0, 4, 0, '>', 0));
        Checks.fails(Checks.NO_ELEMENT, () -> r.setCondition(0, 1, 4, '>', 0));
        Checks.fails(Checks.NO_ELEMENT, () -> r.setCondition(0, -1, 0, '>', 0));
        Checks.fails(Checks.NO_ELEMENT, () -> r.setCondition(0, 1, -1, '>', 0));
        Checks.fails(Checks.UNSUPPORTED, () -> r.setCondition(0, 2, 0, '>', 0));
        Checks.fails(Checks.UNSUPPORTED, () -> r.setCondition(0, 1, 1, '>', 0));
        Checks.fails(Checks.UNSUPPORTED, () -> r.setCondition(0, 1, 3, '>', 0));
        Checks.is(1, r.setCondition(0, 1, 0, '<', -9999));
        Checks.is(1, r.setCondition(0, 1, 0, '>', 9999));
        Checks.is(1, r.setCondition(0, 1, 0, '>', 3));
        Checks.is(2, r.setCondition(0, 3, 2, '=', 7));
        r.publish(0);
        Checks.fails(Checks.STATE, () -> r.setCondition(0, 1, 0, '>', 0));
        Checks.fails(Checks.STATE, () -> r.setCondition(0, 9, 0, '>', 0));
        r.start(0, 0);
        Checks.is(false, r.isAsked(0, 1));
        r.answer(0, 0, 2);
        Checks.is(false, r.isAsked(0, 1));
        r.answer(0, 0, 1);
        Checks.is(true, r.isAsked(0, 1));
        Checks.is(false, r.isAsked(0, 3));
        r.answer(0, 1, 4);
        Checks.is(true, r.isAsked(0, 3));
        r.takeBack(0, 1);
        r.answer(0, 1, 5);
        Checks.is(false, r.isAsked(0, 3));
        lesserCondition();
    }

    private static void lesserCondition() {
        FormRiver r = new FormRiver();
        r.addForm();
        r.addQuestion(0, 0, -9, 9, 1);
        r.addQuestion(0, 1, 0, 9, 1);
        r.setCondition(0, 1, 0, '<', -2);
        r.publish(0);
        r.start(0, 0);
        Checks.is(false, r.isAsked(0, 1));
        r.answer(0, 0, -1);
        Checks.is(false, r.isAsked(0, 1));
        r.takeBack(0, 0);
        r.answer(0, 0, -2);
        Checks.is(true, r.isAsked(0, 1));
        r.takeBack(0, 0);
        r.answer(0, 0, -3);
        Checks.is(true, r.isAsked(0, 1));
    }

    private static void maps() {
        Checks.promise(7);
        FormRiver r = new FormRiver();
        r.addForm();
        r.addQuestion(0, 0, 0, 9, 1);
        r.addQuestion(0, 1, 0, 9, 1);
        r.addQuestion(0, 2, 0, 9, 1);
        Checks.fails(Checks.STATE, () -> r.setMap(0, 0, 0, '=', 0));
        r.publish(0);
        Checks.fails(Checks.STATE, () -> r.setMap(0, 0, 0, '=', 0));
        r.addVersion(0);
        r.addQuestion(0, 0, -999, 999, 1);
        r.addComputed(0, 1, '+', 0, 0);
        Checks.fails(Checks.BOUNDS, () -> r.setMap(1, 0, 0, '=', 0));
        Checks.fails(Checks.BOUNDS, () -> r.setMap(-1, 0, 0, '?', 0));
        Checks.fails(Checks.ARGUMENT, () -> r.setMap(0, 0, 0, '-', 0));
        Checks.fails(Checks.ARGUMENT, () -> r.setMap(0, 0, 0, '=', 100));
        Checks.fails(Checks.ARGUMENT, () -> r.setMap(0, 0, 0, '+', -100));
        Checks.fails(Checks.ARGUMENT, () -> r.setMap(0, 9, 0, '/', 0));
        Checks.fails(Checks.NO_ELEMENT, () -> r.setMap(0, 2, 0, '=', 0));
        Checks.fails(Checks.NO_ELEMENT, () -> r.setMap(0, -1, 0, '=', 0));
        Checks.fails(Checks.NO_ELEMENT, () -> r.setMap(0, 0, 3, '=', 0));
        Checks.fails(Checks.NO_ELEMENT, () -> r.setMap(0, 0, -1, '=', 0));
        Checks.fails(Checks.UNSUPPORTED, () -> r.setMap(0, 1, 0, '=', 0));
        Checks.fails(Checks.NO_ELEMENT, () -> r.setMap(0, 1, 3, '=', 0));
        Checks.is(1, r.setMap(0, 0, 2, '*', 0));
        Checks.is(1, r.setMap(0, 0, 2, '*', -99));
        Checks.is(2, r.addQuestion(0, 2, 0, 9, 1));
        Checks.is(2, r.setMap(0, 2, 0, '=', 99));
        Checks.is(2, r.setMap(0, 2, 1, '=', 99));
        r.start(0, 0);
        r.answer(0, 1, 4);
        r.answer(0, 2, 5);
        r.publish(0);
        Checks.is(-495, r.carried(0, 0));
        Checks.is(4, r.carried(0, 2));
    }

    private static void legs() {
        Checks.promise(8);
        FormRiver r = new FormRiver();
        r.addForm();
        r.addQuestion(0, 0, 0, 9, 1);
        Checks.fails(Checks.BOUNDS, () -> r.addLeg(1, 9, 9, 9, 0, 0));
        Checks.fails(Checks.BOUNDS, () -> r.addLeg(-1, 0, 0, -1, 0, 0));
        Checks.fails(Checks.ARGUMENT, () -> r.addLeg(0, 3, 0, -1, 0, 0));
        Checks.fails(Checks.ARGUMENT, () -> r.addLeg(0, -1, 0, -1, 0, 0));
        Checks.fails(Checks.ARGUMENT, () -> r.addLeg(0, 0, 6, -1, 0, 0));
        Checks.fails(Checks.ARGUMENT, () -> r.addLeg(0, 0, -1, -1, 0, 0));
        Checks.fails(Checks.ARGUMENT, () -> r.addLeg(0, 0, 0, -1, 10000, 0));
        Checks.fails(Checks.ARGUMENT, () -> r.addLeg(0, 0, 0, -1, -10000, 0));
        Checks.fails(Checks.ARGUMENT, () -> r.addLeg(0, 0, 0, -1, 0, 61));
        Checks.fails(Checks.ARGUMENT, () -> r.addLeg(0, 0, 0, 9, 0, -1));
        Checks.fails(Checks.NO_ELEMENT, () -> r.addLeg(0, 0, 0, 1, 0, 0));
        Checks.fails(Checks.NO_ELEMENT, () -> r.addLeg(0, 0, 0, -2, 0, 0));
        Checks.is(1, r.addLeg(0, 0, 0, -1, 9999, 60));
        Checks.fails(Checks.STATE, () -> r.addLeg(0, 0, 0, 7, 0, 0));
        Checks.is(2, r.addLeg(0, 1, 0, 0, -9999, 0));
        Checks.is(3, r.addLeg(0, 0, 5, 0, 0, 0));
        Checks.is(4, r.addLeg(0, 2, 0, 0, 0, 0));
        Checks.is(5, r.addLeg(0, 2, 1, 0, 0, 0));
        Checks.is(6, r.addLeg(0, 2, 2, 0, 0, 0));
        Checks.fails(Checks.STATE, () -> r.addLeg(0, 2, 3, 0, 0, 0));
        r.publish(0);
        Checks.fails(Checks.STATE, () -> r.addLeg(0, 1, 1, 9, 0, 0));
        Checks.fails(Checks.ARGUMENT, () -> r.addLeg(0, 1, 6, -1, 0, 0));
    }

    private static void keeping() {
        Checks.promise(9);
        FormRiver r = new FormRiver();
        r.addForm();
        r.addQuestion(0, 0, 0, 9, 1);
        Checks.fails(Checks.BOUNDS, () -> r.setKeeping(1, 0, -1, 0, 0));
        Checks.fails(Checks.BOUNDS, () -> r.setKeeping(-1, 1, -1, 0, 0));
        Checks.fails(Checks.ARGUMENT, () -> r.setKeeping(0, 0, -1, 0, 0));
        Checks.fails(Checks.ARGUMENT, () -> r.setKeeping(0, 401, -1, 0, 0));
        Checks.fails(Checks.ARGUMENT, () -> r.setKeeping(0, 1, -1, 10000, 0));
        Checks.fails(Checks.ARGUMENT, () -> r.setKeeping(0, 1, -1, -10000, 0));
        Checks.fails(Checks.ARGUMENT, () -> r.setKeeping(0, 1, -1, 0, 401));
        Checks.fails(Checks.ARGUMENT, () -> r.setKeeping(0, 1, 9, 0, -1));
        Checks.fails(Checks.NO_ELEMENT, () -> r.setKeeping(0, 1, 1, 0, 0));
        Checks.fails(Checks.NO_ELEMENT, () -> r.setKeeping(0, 1, -2, 0, 0));
        Checks.is(100, r.setKeeping(0, 400, 0, 9999, 400));
        Checks.is(400, r.setKeeping(0, 1, -1, -9999, 400));
        Checks.is(1, r.setKeeping(0, 7, 0, 5, 30));
        r.publish(0);
        Checks.fails(Checks.STATE, () -> r.setKeeping(0, 1, 9, 0, 0));
        Checks.fails(Checks.ARGUMENT, () -> r.setKeeping(0, 0, 0, 0, 0));
        r.addVersion(0);
        Checks.is(100, r.setKeeping(0, 50, -1, 0, 0));
        for (int answer = 4; answer < 7; answer++) {
            int submission = r.start(0, 0);
            r.answer(submission, 0, answer);
            r.submit(submission);
        }
        Checks.is(7, r.lastDay(0));
        Checks.is(37, r.lastDay(1));
        Checks.is(37, r.lastDay(2));
    }

    private static void publishing() {
        Checks.promise(10);
        FormRiver r = new FormRiver();
        r.addForm();
        r.addForm();
        Checks.fails(Checks.BOUNDS, () -> r.publish(2));
        Checks.fails(Checks.BOUNDS, () -> r.publish(-1));
        Checks.fails(Checks.STATE, () -> r.publish(0));
        r.addQuestion(0, 4, 0, 9, 1);
        r.addComputed(0, 4, '+', 0, 0);
        Checks.fails(Checks.UNSUPPORTED, () -> r.publish(0));
        Checks.fails(Checks.NO_ELEMENT, () -> r.present(0));
        Checks.fails(Checks.NO_ELEMENT, () -> r.owner(4));
        r.addQuestion(1, 4, 0, 9, 1);
        r.addQuestion(1, 5, 0, 9, 1);
        Checks.is(0, r.publish(1));
        Checks.fails(Checks.STATE, () -> r.publish(1));
        Checks.is(1, r.owner(4));

        FormRiver s = new FormRiver();
        s.addForm();
        s.addForm();
        s.addQuestion(0, 1, 0, 9, 1);
        s.addQuestion(1, 2, 0, 9, 1);
        s.addQuestion(1, 1, 0, 9, 1);
        s.publish(0);
        Checks.fails(Checks.UNSUPPORTED, () -> s.publish(1));
        Checks.fails(Checks.NO_ELEMENT, () -> s.owner(2));
        // A meaning stays with its owner when a later version has it no more.
        s.addVersion(0);
        s.addQuestion(0, 3, 0, 9, 1);
        s.publish(0);
        Checks.fails(Checks.UNSUPPORTED, () -> s.publish(1));
        Checks.is(0, s.owner(1));
        s.addForm();
        s.addQuestion(2, 1, 0, 9, 1);
        s.addQuestion(2, 9, 0, 9, 1);
        Checks.fails(Checks.UNSUPPORTED, () -> s.publish(2));
    }

    private static void publishingChangesRecords() {
        FormRiver r = new FormRiver();
        r.addForm();
        for (int meaning = 0; meaning < 4; meaning++) {
            r.addQuestion(0, meaning, 0, 9, 1);
        }
        r.publish(0);
        for (int person = 0; person < 2; person++) {
            r.start(person, 0);
            for (int question = 0; question < 4; question++) {
                r.answer(person, question, question + 1);
            }
            r.submit(person);
        }
        r.addVersion(0);
        r.addQuestion(0, 0, 0, 99, 1);
        r.setMap(0, 0, 0, '=', 0);
        r.addQuestion(0, 1, 0, 99, 1);
        r.setMap(0, 1, 1, '+', 5);
        r.addQuestion(0, 2, 0, 99, 1);
        r.addQuestion(0, 7, 0, 99, 1);
        r.setMap(0, 3, 2, '=', 0);
        // The same: 0; another value: 1; no more: 2 and 3; not before: 7; each for two people.
        Checks.is(8, r.publish(0));
        Checks.is(1, r.record(0, 0));
        Checks.is(7, r.record(1, 1));
        Checks.fails(Checks.NO_ELEMENT, () -> r.record(0, 2));
        Checks.fails(Checks.NO_ELEMENT, () -> r.record(0, 3));
        Checks.is(3, r.record(1, 7));
        sourceChangesWithoutValue();
    }

    /** A record whose source changes while its value stays is not counted. */
    private static void sourceChangesWithoutValue() {
        FormRiver r = new FormRiver();
        r.addForm();
        r.addQuestion(0, 0, 0, 99, 1);
        r.publish(0);
        int[] answers = {6, 60};
        for (int i = 0; i < 2; i++) {
            r.start(3, 0);
            r.answer(i, 0, answers[i]);
            r.submit(i);
        }
        Checks.is(1, r.source(3, 0));
        r.addVersion(0);
        r.addQuestion(0, 0, 0, 65, 1);
        r.setMap(0, 0, 0, '*', 10);
        Checks.is(0, r.publish(0));
        Checks.is(0, r.source(3, 0));
        Checks.is(60, r.record(3, 0));
    }

    private static void presentAndOwner() {
        Checks.promise(11);
        FormRiver r = new FormRiver();
        r.addForm();
        Checks.fails(Checks.BOUNDS, () -> r.present(1));
        Checks.fails(Checks.BOUNDS, () -> r.present(-1));
        Checks.fails(Checks.NO_ELEMENT, () -> r.present(0));
        r.addQuestion(0, 15, 0, 9, 1);
        r.publish(0);
        Checks.is(0, r.present(0));
        r.addVersion(0);
        Checks.is(0, r.present(0));
        r.addQuestion(0, 0, 0, 9, 1);
        r.publish(0);
        Checks.is(1, r.present(0));

        Checks.promise(12);
        Checks.fails(Checks.ARGUMENT, () -> r.owner(-1));
        Checks.fails(Checks.ARGUMENT, () -> r.owner(16));
        Checks.fails(Checks.NO_ELEMENT, () -> r.owner(1));
        Checks.is(0, r.owner(0));
        Checks.is(0, r.owner(15));
        r.addForm();
        r.addQuestion(1, 1, 0, 9, 1);
        Checks.fails(Checks.NO_ELEMENT, () -> r.owner(1));
        r.publish(1);
        Checks.is(1, r.owner(1));
    }

    private static void substitutes() {
        Checks.promise(13);
        FormRiver r = new FormRiver();
        Checks.fails(Checks.BOUNDS, () -> r.setSubstitute(-1, -1));
        Checks.fails(Checks.BOUNDS, () -> r.setSubstitute(6, 6));
        Checks.fails(Checks.BOUNDS, () -> r.setSubstitute(6, 0));
        Checks.fails(Checks.BOUNDS, () -> r.setSubstitute(-1, 0));
        Checks.fails(Checks.BOUNDS, () -> r.setSubstitute(0, 6));
        Checks.fails(Checks.BOUNDS, () -> r.setSubstitute(0, -2));
        Checks.fails(Checks.ARGUMENT, () -> r.setSubstitute(3, 3));
        for (int desk = 0; desk < 5; desk++) {
            Checks.is(-1, r.setSubstitute(desk, desk + 1));
        }
        for (int desk = 0; desk < 5; desk++) {
            int d = desk;
            Checks.fails(Checks.UNSUPPORTED, () -> r.setSubstitute(5, d));
        }
        Checks.is(3, r.setSubstitute(2, -1));
        Checks.is(-1, r.setSubstitute(5, 0));
        Checks.fails(Checks.UNSUPPORTED, () -> r.setSubstitute(2, 3));
        Checks.is(4, r.setSubstitute(3, 2));

        r.addForm();
        r.addQuestion(0, 0, 0, 9, 1);
        r.addLeg(0, 0, 4, -1, 0, 0);
        r.addLeg(0, 1, 4, -1, 0, 0);
        r.publish(0);
        r.start(0, 0);
        r.answer(0, 0, 1);
        r.submit(0);
        // 4, 5, 0, 1 and 2 in a row.
        Checks.is(true, r.waits(0, 2));
        Checks.is(false, r.waits(0, 4));
        // A leg that waits stays where it is.
        Checks.is(1, r.setSubstitute(0, -1));
        Checks.is(true, r.waits(0, 2));
        r.approve(0, 2);
        Checks.is(true, r.waits(0, 0));
    }

    private FormsTest() {
    }
}

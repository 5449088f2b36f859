/** Promises 36 to 41, 46 to 48: records, totals, means and shares. */
public final class RecordsTest {
    public static void main(String[] args) {
        wrongInputs();
        acceptedLast();
        onlyWhatCounts();
        recordsOfTwoForms();
        presentVersionDecides();
        acceptedLastWithAValue();
        means();
        shares();
        soundness();
        Checks.end();
    }

    private static FormRiver form() {
        FormRiver r = new FormRiver();
        r.addForm();
        r.addQuestion(0, 0, -99, 99, 2);
        r.addQuestion(0, 1, 0, 99, 1);
        r.setCondition(0, 1, 0, '>', 10);
        r.addComputed(0, 2, '*', 0, 1);
        r.publish(0);
        return r;
    }

    private static int accepted(FormRiver r, int person, int answer) {
        int submission = r.start(person, 0);
        r.answer(submission, 0, answer);
        r.submit(submission);
        return submission;
    }

    private static void wrongInputs() {
        FormRiver r = form();
        Checks.promise(36);
        Checks.fails(Checks.BOUNDS, () -> r.record(-1, 99));
        Checks.fails(Checks.BOUNDS, () -> r.record(6, 0));
        Checks.fails(Checks.ARGUMENT, () -> r.record(0, -1));
        Checks.fails(Checks.ARGUMENT, () -> r.record(0, 16));
        Checks.fails(Checks.NO_ELEMENT, () -> r.record(5, 15));
        Checks.promise(37);
        Checks.fails(Checks.BOUNDS, () -> r.recordAnew(-1, 99));
        Checks.fails(Checks.BOUNDS, () -> r.recordAnew(6, 0));
        Checks.fails(Checks.ARGUMENT, () -> r.recordAnew(0, -1));
        Checks.fails(Checks.ARGUMENT, () -> r.recordAnew(0, 16));
        Checks.fails(Checks.NO_ELEMENT, () -> r.recordAnew(5, 15));
        Checks.promise(38);
        Checks.fails(Checks.BOUNDS, () -> r.source(-1, 99));
        Checks.fails(Checks.BOUNDS, () -> r.source(6, 0));
        Checks.fails(Checks.ARGUMENT, () -> r.source(0, -1));
        Checks.fails(Checks.ARGUMENT, () -> r.source(0, 16));
        Checks.fails(Checks.NO_ELEMENT, () -> r.source(5, 15));
        Checks.promise(39);
        Checks.fails(Checks.ARGUMENT, () -> r.total(-1));
        Checks.fails(Checks.ARGUMENT, () -> r.total(16));
        Checks.is(0, r.total(15));
        Checks.promise(40);
        Checks.fails(Checks.ARGUMENT, () -> r.totalAnew(-1));
        Checks.fails(Checks.ARGUMENT, () -> r.totalAnew(16));
        Checks.is(0, r.totalAnew(15));
        Checks.promise(41);
        Checks.fails(Checks.ARGUMENT, () -> r.counted(-1));
        Checks.fails(Checks.ARGUMENT, () -> r.counted(16));
        Checks.is(0, r.counted(15));
        Checks.promise(46);
        Checks.fails(Checks.ARGUMENT, () -> r.meanValue(-1));
        Checks.fails(Checks.ARGUMENT, () -> r.meanValue(16));
        Checks.fails(Checks.ARITHMETIC, () -> r.meanValue(0));
        Checks.promise(48);
        Checks.fails(Checks.BOUNDS, () -> r.isSound(-1));
        Checks.fails(Checks.BOUNDS, () -> r.isSound(6));
    }

    private static void checkRecord(FormRiver r, int person, int meaning, int value, int source) {
        Checks.promise(36);
        Checks.is(value, r.record(person, meaning));
        Checks.promise(37);
        Checks.is(value, r.recordAnew(person, meaning));
        Checks.promise(38);
        Checks.is(source, r.source(person, meaning));
    }

    private static void checkNoRecord(FormRiver r, int person, int meaning) {
        Checks.promise(36);
        Checks.fails(Checks.NO_ELEMENT, () -> r.record(person, meaning));
        Checks.promise(37);
        Checks.fails(Checks.NO_ELEMENT, () -> r.recordAnew(person, meaning));
        Checks.promise(38);
        Checks.fails(Checks.NO_ELEMENT, () -> r.source(person, meaning));
    }

    private static void checkTotal(FormRiver r, int meaning, long total, int counted) {
        Checks.promise(39);
        Checks.is(total, r.total(meaning));
        Checks.promise(40);
        Checks.is(total, r.totalAnew(meaning));
        Checks.promise(41);
        Checks.is(counted, r.counted(meaning));
    }

    /** Not the number of a submission decides, but when it was accepted. */
    private static void acceptedLast() {
        FormRiver r = form();
        r.start(0, 0);
        accepted(r, 0, 4);
        checkRecord(r, 0, 0, 4, 1);
        r.answer(0, 0, -7);
        checkRecord(r, 0, 0, 4, 1);
        r.submit(0);
        checkRecord(r, 0, 0, -7, 0);
        checkTotal(r, 0, -3, 2);
        checkNoRecord(r, 1, 0);
        checkNoRecord(r, 0, 1);
        checkTotal(r, 1, 0, 0);
        accepted(r, 1, 9);
        checkRecord(r, 0, 0, -7, 0);
        checkRecord(r, 1, 0, 9, 2);
        checkTotal(r, 0, 6, 3);
    }

    private static void onlyWhatCounts() {
        FormRiver r = new FormRiver();
        r.addForm();
        r.addQuestion(0, 0, -99, 99, 2);
        r.addLeg(0, 0, 0, 0, 10, 0);
        r.setKeeping(0, 10, 0, 5, 10);
        r.publish(0);
        accepted(r, 0, 3);
        accepted(r, 0, 6);
        accepted(r, 0, 20);
        checkRecord(r, 0, 0, 6, 1);
        checkTotal(r, 0, 9, 2);
        r.sendBack(2, 0, 1);
        checkTotal(r, 0, 9, 2);
        r.withdraw(2);
        checkTotal(r, 0, 9, 2);
        // A replaced submission counts no more.
        r.amend(1);
        r.answer(3, 0, 2);
        r.submit(3);
        checkRecord(r, 0, 0, 8, 3);
        checkTotal(r, 0, 11, 2);
        r.pass(9);
        checkTotal(r, 0, 11, 2);
        r.pass(1);
        checkTotal(r, 0, 8, 1);
        r.pass(10);
        checkTotal(r, 0, 0, 0);
        checkNoRecord(r, 0, 0);
    }

    private static void recordsOfTwoForms() {
        FormRiver r = form();
        r.addForm();
        r.addQuestion(1, 5, 0, 9, 1);
        r.publish(1);
        accepted(r, 2, 8);
        checkNoRecord(r, 2, 5);
        int submission = r.start(2, 1);
        r.answer(submission, 0, 5);
        r.submit(submission);
        checkRecord(r, 2, 0, 8, 0);
        checkRecord(r, 2, 5, 5, 1);
        checkTotal(r, 5, 5, 1);
    }

    private static void presentVersionDecides() {
        FormRiver r = form();
        accepted(r, 0, 7);
        int second = r.start(1, 0);
        r.answer(second, 0, 60);
        r.answer(second, 1, 3);
        r.submit(second);
        checkTotal(r, 0, 67, 2);
        checkTotal(r, 2, 180, 1);
        r.addVersion(0);
        r.addQuestion(0, 2, 0, 99, 1);
        r.setMap(0, 0, 0, '+', 40);
        r.addQuestion(0, 9, 0, 999, 1);
        r.setMap(0, 1, 2, '=', 0);
        r.addQuestion(0, 0, 0, 9, 1);
        // A draft changes nothing yet.
        checkTotal(r, 0, 67, 2);
        checkTotal(r, 2, 180, 1);
        Checks.promise(10);
        // The meanings 0 of both, 1 of the second one, 2 of both (47 is new, 180 is no more), 9 of the second one.
        Checks.is(6, r.publish(0));
        checkTotal(r, 0, 0, 0);
        checkTotal(r, 2, 47, 1);
        checkRecord(r, 0, 2, 47, 0);
        checkNoRecord(r, 1, 2);
        checkRecord(r, 1, 9, 180, 1);
        checkNoRecord(r, 0, 9);
    }

    /** A submission that was accepted later, but has no value, leaves the record to an earlier one. */
    private static void acceptedLastWithAValue() {
        FormRiver r = form();
        int first = r.start(3, 0);
        r.answer(first, 0, 20);
        r.answer(first, 1, 30);
        r.submit(first);
        accepted(r, 3, 4);
        checkRecord(r, 3, 0, 4, 1);
        checkRecord(r, 3, 1, 30, 0);
        checkRecord(r, 3, 2, 600, 0);
        Checks.promise(48);
        Checks.is(true, r.isSound(3));
        // When the amended one is replaced, its value is that of the record no more.
        r.amend(0);
        r.takeBack(2, 0);
        r.answer(2, 0, 1);
        r.submit(2);
        checkRecord(r, 3, 0, 1, 2);
        checkNoRecord(r, 3, 1);
        checkTotal(r, 0, 5, 2);
    }

    private static void means() {
        Checks.promise(46);
        FormRiver r = form();
        accepted(r, 0, -1);
        Checks.is(-1.0, r.meanValue(0));
        accepted(r, 1, 2);
        Checks.is(0.5, r.meanValue(0));
        accepted(r, 1, 4);
        Checks.is(5.0 / 3.0, r.meanValue(0));
        Checks.fails(Checks.ARITHMETIC, () -> r.meanValue(1));
        r.pass(60);
        r.pass(40);
        Checks.fails(Checks.ARITHMETIC, () -> r.meanValue(0));
    }

    private static void shares() {
        Checks.promise(47);
        FormRiver r = form();
        Checks.fails(Checks.ARITHMETIC, () -> r.acceptedShare());
        r.start(0, 0);
        Checks.fails(Checks.ARITHMETIC, () -> r.acceptedShare());
        r.withdraw(0);
        Checks.is(0.0f, r.acceptedShare());
        accepted(r, 0, 1);
        Checks.is(0.5f, r.acceptedShare());
        r.amend(1);
        Checks.is(0.5f, r.acceptedShare());
        r.submit(2);
        Checks.is((float) 2 / 3, r.acceptedShare());
        r.pass(60);
        r.pass(60);
        // One is replaced and one is gone.
        Checks.is((float) 2 / 3, r.acceptedShare());
        r.start(0, 0);
        r.withdraw(3);
        Checks.is(0.5f, r.acceptedShare());
    }

    private static void soundness() {
        Checks.promise(48);
        FormRiver r = form();
        for (int person = 0; person < 6; person++) {
            accepted(r, person, person);
            accepted(r, person, person + 3);
            Checks.is(true, r.isSound(person));
        }
        r.amend(3);
        r.submit(12);
        r.pass(60);
        r.hold(4, true);
        r.pass(40);
        for (int person = 0; person < 6; person++) {
            Checks.is(true, r.isSound(person));
        }
        checkRecord(r, 4, 0, 7, 9);
    }

    private RecordsTest() {
    }
}

/** The boundary cases of the promises 36 to 41 and 46 to 48: records, totals, means, shares and soundness. */
public final class RecordBoundsTest {
    public static void main(String[] args) {
        peopleAndMeanings();
        emptyRecords();
        statesThatCount();
        recordsGoBack();
        totalsUpToTheLimits();
        meaningsOfThePresentVersion();
        meansOfOneAndMany();
        sharesFromNoneToAll();
        soundPeople();
        Checks.end();
    }

    private static Twin newForm() {
        return new Twin().is(0, r -> r.addForm());
    }

    /** A form with the meanings 0 and 15, the latter one asked from 10 on. */
    private static Twin form() {
        Twin t = newForm().is(0, r -> r.addQuestion(0, 0, -999, 999, 4)).is(1, r -> r.addQuestion(0, 15, -999, 999, 1));
        t.is(1, r -> r.setCondition(0, 1, 0, '>', 10)).is(1, r -> r.addLeg(0, 0, 0, 0, 500, 0));
        return t.is(100, r -> r.setKeeping(0, 5, -1, 0, 0)).is(0, r -> r.publish(0));
    }

    private static Twin accepted(Twin t, int submission, int person, int answer) {
        t.is(submission, r -> r.start(person, 0)).is(1, r -> r.answer(submission, 0, answer));
        return t.is(0, r -> r.submit(submission));
    }

    private static Twin keeps(Twin t, int person, int meaning, int value, int source) {
        Checks.promise(36);
        t.is(value, r -> r.record(person, meaning));
        Checks.promise(37);
        t.is(value, r -> r.recordAnew(person, meaning));
        Checks.promise(38);
        return t.is(source, r -> r.source(person, meaning));
    }

    private static Twin keepsNone(Twin t, int person, int meaning) {
        Checks.promise(36);
        t.fails(Twin.NO_ELEMENT, r -> r.record(person, meaning));
        Checks.promise(37);
        t.fails(Twin.NO_ELEMENT, r -> r.recordAnew(person, meaning));
        Checks.promise(38);
        return t.fails(Twin.NO_ELEMENT, r -> r.source(person, meaning));
    }

    private static Twin totals(Twin t, int meaning, long total, int counted) {
        Checks.promise(39);
        t.is(total, r -> r.total(meaning));
        Checks.promise(40);
        t.is(total, r -> r.totalAnew(meaning));
        Checks.promise(41);
        t.is(counted, r -> r.counted(meaning));
        Checks.promise(46);
        return counted == 0 ? t.fails(Twin.ARITHMETIC, r -> r.meanValue(meaning))
                : t.is((double) total / counted, r -> r.meanValue(meaning));
    }

    /** No such person comes before no such meaning, and this before no such value. */
    private static void peopleAndMeanings() {
        Twin t = accepted(accepted(form(), 0, 0, 5), 1, 5, 6);
        for (int meaning : new int[] {Integer.MIN_VALUE, -1, 0, 1, 15, 16, Integer.MAX_VALUE}) {
            Checks.promise(36);
            t.outside(0, 5, Twin.BOUNDS, person -> r -> r.record(person, meaning));
            Checks.promise(37);
            t.outside(0, 5, Twin.BOUNDS, person -> r -> r.recordAnew(person, meaning));
            Checks.promise(38);
            t.outside(0, 5, Twin.BOUNDS, person -> r -> r.source(person, meaning));
        }
        for (int i = 0; i < 6; i++) {
            int person = i;
            Checks.promise(36);
            t.outside(0, 15, Twin.ARGUMENT, meaning -> r -> r.record(person, meaning));
            Checks.promise(37);
            t.outside(0, 15, Twin.ARGUMENT, meaning -> r -> r.recordAnew(person, meaning));
            Checks.promise(38);
            t.outside(0, 15, Twin.ARGUMENT, meaning -> r -> r.source(person, meaning));
        }
        Checks.promise(39);
        t.outside(0, 15, Twin.ARGUMENT, meaning -> r -> r.total(meaning));
        Checks.promise(40);
        t.outside(0, 15, Twin.ARGUMENT, meaning -> r -> r.totalAnew(meaning));
        Checks.promise(41);
        t.outside(0, 15, Twin.ARGUMENT, meaning -> r -> r.counted(meaning));
        Checks.promise(46);
        t.outside(0, 15, Twin.ARGUMENT, meaning -> r -> r.meanValue(meaning));
        Checks.promise(48);
        t.outside(0, 5, Twin.BOUNDS, person -> r -> r.isSound(person));
        keeps(t, 0, 0, 5, 0);
        keeps(t, 5, 0, 6, 1).goesOnAlike();
    }

    private static void emptyRecords() {
        Twin[] twins = {new Twin(), form(), form().is(0, r -> r.start(0, 0)).is(1, r -> r.answer(0, 0, 7))};
        for (Twin t : twins) {
            for (int person = 0; person < 6; person++) {
                keepsNone(t, person, 0);
                keepsNone(t, person, 15);
            }
            for (int meaning = 0; meaning < 16; meaning++) {
                totals(t, meaning, 0, 0);
            }
            t.goesOnAlike();
        }
    }

    private static void statesThatCount() {
        Twin t = form().is(0, r -> r.start(2, 0)).is(1, r -> r.answer(0, 0, 500));
        totals(t, 0, 0, 0).is(1, r -> r.answer(0, 1, 999)).is(1, r -> r.submit(0));
        totals(t, 0, 0, 0).is(1, r -> r.sendBack(0, 0, 1));
        keepsNone(totals(t, 0, 0, 0), 2, 0).is(1, r -> r.submit(0)).is(0, r -> r.approve(0, 0));
        keeps(totals(t, 0, 500, 1), 2, 0, 500, 0);
        keeps(totals(t, 15, 999, 1), 2, 15, 999, 0).is(1, r -> r.amend(0));
        // The amending one does not count before it is accepted, the amended one not after it.
        t.is(500, r -> r.takeBack(1, 0)).is(1, r -> r.answer(1, 0, 9));
        keeps(totals(t, 0, 500, 1), 2, 0, 500, 0).is(0, r -> r.submit(1));
        keepsNone(keeps(totals(t, 0, 9, 1), 2, 0, 9, 1), 2, 15);
        totals(t, 15, 0, 0).is(1, r -> r.pass(5));
        keepsNone(totals(t, 0, 0, 0), 2, 0);
        // Ended and gone ones count no more.
        accepted(t, 2, 2, 3).is(3, r -> r.start(2, 0)).is('d', r -> r.withdraw(3));
        keeps(totals(t, 0, 3, 1), 2, 0, 3, 2).goesOnAlike();
    }

    /** When the one that was accepted last is gone, the record has the value of the one before again. */
    private static void recordsGoBack() {
        Twin t = newForm().is(0, r -> r.addQuestion(0, 0, 0, 99, 1)).is(100, r -> r.setKeeping(0, 5, 0, 50, 10)).is(0, r -> r.publish(0));
        accepted(t, 0, 4, 60);
        accepted(t, 1, 4, 50);
        accepted(t, 2, 4, 49).is(15, r -> r.lastDay(1)).is(5, r -> r.lastDay(2));
        keeps(totals(t, 0, 159, 3), 4, 0, 49, 2).is(0, r -> r.pass(4));
        keeps(t, 4, 0, 49, 2).is(1, r -> r.pass(1));
        keeps(totals(t, 0, 110, 2), 4, 0, 50, 1).is(3, r -> r.amend(1)).is(50, r -> r.takeBack(3, 0)).is(1, r -> r.answer(3, 0, 7));
        t.is(0, r -> r.submit(3));
        keeps(totals(t, 0, 67, 2), 4, 0, 7, 3).is(10, r -> r.lastDay(3)).is(1, r -> r.pass(5));
        keeps(totals(t, 0, 60, 1), 4, 0, 60, 0).is(1, r -> r.pass(5));
        keepsNone(totals(t, 0, 0, 0), 4, 0).goesOnAlike();
    }

    /** Twenty-four times the greatest value, and the least one. */
    private static void totalsUpToTheLimits() {
        Twin t = newForm().is(0, r -> r.addQuestion(0, 0, 999, 999, 1)).is(1, r -> r.addQuestion(0, 1, -999, -999, 1));
        t.is(2, r -> r.addComputed(0, 2, '*', 0, 0)).is(3, r -> r.addComputed(0, 3, '*', 0, 1)).is(0, r -> r.publish(0));
        for (int i = 0; i < 24; i++) {
            int submission = i;
            t.is(submission, r -> r.start(submission % 6, 0)).is(1, r -> r.answer(submission, 0, 999));
            t.is(1, r -> r.answer(submission, 1, -999)).is(0, r -> r.submit(submission));
            totals(totals(t, 2, 9999L * (submission + 1), submission + 1), 3, -9999L * (submission + 1), submission + 1);
        }
        totals(totals(t, 0, 23976, 24), 1, -23976, 24);
        for (int person = 0; person < 6; person++) {
            keeps(keeps(t, person, 2, 9999, 18 + person), person, 3, -9999, 18 + person);
        }
        t.goesOnAlike();
    }

    /** A meaning that the present version has no more is told of no submission; one without a map neither. */
    private static void meaningsOfThePresentVersion() {
        Twin t = accepted(accepted(form(), 0, 0, 5), 1, 1, 7).is(1, r -> r.addVersion(0));
        t.is(0, r -> r.addQuestion(0, 1, -99, 99, 1)).is(1, r -> r.setMap(0, 0, 0, '=', 0)).is(4, r -> r.publish(0));
        keepsNone(totals(t, 0, 0, 0), 0, 0).is(0, r -> r.owner(0));
        keeps(keeps(totals(t, 1, 12, 2), 0, 1, 5, 0), 1, 1, 7, 1).is(2, r -> r.addVersion(0));
        t.is(0, r -> r.addQuestion(0, 1, -99, 99, 1)).is(1, r -> r.addQuestion(0, 0, -99, 6, 1));
        t.is(1, r -> r.setMap(0, 1, 0, '=', 0)).is(3, r -> r.publish(0));
        keepsNone(totals(t, 1, 0, 0), 0, 1);
        keepsNone(keeps(totals(t, 0, 5, 1), 0, 0, 5, 0), 1, 0).goesOnAlike();
        // What another form owns is nothing to this one.
        Twin s = accepted(form(), 0, 0, 5).is(1, r -> r.addForm()).is(0, r -> r.addQuestion(1, 1, 0, 9, 1)).is(0, r -> r.publish(1));
        s.is(1, r -> r.start(0, 1)).is(1, r -> r.answer(1, 0, 8)).is(0, r -> r.submit(1));
        keeps(keeps(totals(totals(s, 0, 5, 1), 1, 8, 1), 0, 0, 5, 0), 0, 1, 8, 1).goesOnAlike();
    }

    private static void meansOfOneAndMany() {
        Checks.promise(46);
        Twin t = accepted(form(), 0, 0, -7).is(-7.0, r -> r.meanValue(0)).fails(Twin.ARITHMETIC, r -> r.meanValue(15));
        accepted(t, 1, 1, 0).is(-3.5, r -> r.meanValue(0));
        accepted(t, 2, 1, 5).is(-2.0 / 3.0, r -> r.meanValue(0));
        accepted(t, 3, 2, 2).is(0.0, r -> r.meanValue(0)).is(4, r -> r.counted(0)).is(4, r -> r.pass(5));
        t.fails(Twin.ARITHMETIC, r -> r.meanValue(0)).goesOnAlike();
    }

    private static void sharesFromNoneToAll() {
        Checks.promise(47);
        Twin t = new Twin().fails(Twin.ARITHMETIC, r -> r.acceptedShare());
        t = form().fails(Twin.ARITHMETIC, r -> r.acceptedShare()).is(0, r -> r.start(0, 0)).fails(Twin.ARITHMETIC, r -> r.acceptedShare());
        t.is(1, r -> r.answer(0, 0, 500)).is(1, r -> r.answer(0, 1, 1)).is(1, r -> r.submit(0));
        t.fails(Twin.ARITHMETIC, r -> r.acceptedShare()).is(1, r -> r.sendBack(0, 0, 1)).fails(Twin.ARITHMETIC, r -> r.acceptedShare());
        t.is('r', r -> r.withdraw(0)).is(0.0f, r -> r.acceptedShare());
        accepted(t, 1, 0, 1).is(0.5f, r -> r.acceptedShare()).is(2, r -> r.amend(1)).is(0.5f, r -> r.acceptedShare());
        t.is(0, r -> r.submit(2)).is(2.0f / 3.0f, r -> r.acceptedShare()).is(1, r -> r.pass(5)).is(2.0f / 3.0f, r -> r.acceptedShare());
        for (int i = 3; i < 24; i++) {
            int submission = i;
            t.is(submission, r -> r.start(0, 0)).is('d', r -> r.withdraw(submission));
            t.is(2.0f / (submission + 1), r -> r.acceptedShare());
        }
        t.goesOnAlike();
        Twin all = form();
        for (int submission = 0; submission < 24; submission++) {
            accepted(all, submission, 0, 1).is(1.0f, r -> r.acceptedShare());
        }
        all.goesOnAlike();
        // Rejected ones have ended, too.
        Twin s = form().is(0, r -> r.start(0, 0)).is(1, r -> r.answer(0, 0, 500)).is(1, r -> r.answer(0, 1, 1)).is(1, r -> r.submit(0));
        s.is(0, r -> r.reject(0, 0)).is(0.0f, r -> r.acceptedShare()).goesOnAlike();
    }

    private static void soundPeople() {
        Checks.promise(48);
        Twin t = form();
        for (int i = 0; i < 24; i++) {
            int submission = i;
            accepted(t, submission, submission % 6, submission - 20);
            for (int j = 0; j < 6; j++) {
                int person = j;
                t.is(true, r -> r.isSound(person));
            }
            if (submission % 5 == 4) {
                t.is(submission < 5 ? 0 : 5, r -> r.pass(3));
            }
        }
        t.goesOnAlike();
    }

    private RecordBoundsTest() {
    }
}

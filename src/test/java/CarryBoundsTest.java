/** The boundary cases of the promises 31 to 35: what is carried up to the last number that can be, and why not. */
public final class CarryBoundsTest {
    public static void main(String[] args) {
        submissionsThatAreNotThere();
        questionsThatAreNotThere();
        valuesHaveNoReason();
        draftsAreNotPresent();
        numbersOfMaps();
        rangesOfWhatIsCarried();
        answersThatAreTooMany();
        computedQuestionsAreOneAnswer();
        theFirstReasonThatApplies();
        theFirstQuestionThatLacks();
        rootsInEachVersion();
        theLongestRowOfCauses();
        submissionsInAllStates();
        nothingIsLeftFromRefusals();
        Checks.end();
    }

    private static Twin newForm() {
        return new Twin().is(0, r -> r.addForm());
    }

    /** A form with one question with four answers at most, and a submission of it with these answers. */
    private static Twin answered(int... answers) {
        Twin t = newForm().is(0, r -> r.addQuestion(0, 0, -999, 999, 4)).is(0, r -> r.publish(0)).is(0, r -> r.start(0, 0));
        for (int i = 0; i < answers.length; i++) {
            int count = i;
            t.is(count + 1, r -> r.answer(0, 0, answers[count]));
        }
        return t;
    }

    /** Publishes one more version, with one question that is mapped from the question 0. */
    private static Twin mapped(Twin t, char kind, int number, int least, int greatest, int most) {
        t.does(r -> r.addVersion(0)).is(0, r -> r.addQuestion(0, 0, least, greatest, most));
        return t.is(1, r -> r.setMap(0, 0, 0, kind, number)).is(0, r -> r.publish(0));
    }

    private static Twin mapped(Twin t, char kind, int number) {
        return mapped(t, kind, number, -999, 999, 4);
    }

    /** Checks a question without a value, in all that tells why. */
    private static Twin lacks(Twin t, int question, char reason, char root, int version, int causes) {
        Checks.promise(31);
        t.fails(Twin.NO_ELEMENT, r -> r.carried(0, question));
        Checks.promise(32);
        t.is(reason, r -> r.reason(0, question));
        Checks.promise(33);
        t.is(root, r -> r.root(0, question));
        Checks.promise(34);
        t.is(version, r -> r.rootVersion(0, question));
        Checks.promise(35);
        return t.is(causes, r -> r.causes(0, question));
    }

    private static Twin carries(Twin t, int value) {
        Checks.promise(31);
        return t.is(value, r -> r.carried(0, 0)).alike();
    }

    /** The question is not there either. */
    private static void submissionsThatAreNotThere() {
        Twin full = answered(1);
        for (int submission = 1; submission < 24; submission++) {
            full.does(r -> r.start(0, 0));
        }
        Twin[] twins = {newForm().is(0, r -> r.addQuestion(0, 0, 0, 9, 1)).is(0, r -> r.publish(0)), answered(), full};
        int[] lasts = {-1, 0, 23};
        for (int i = 0; i < 3; i++) {
            for (int j = 0; j < 2; j++) {
                Twin t = twins[i];
                int question = j;
                int last = lasts[i];
                Checks.promise(31);
                t.outside(0, last, Twin.BOUNDS, submission -> r -> r.carried(submission, question));
                Checks.promise(32);
                t.outside(0, last, Twin.BOUNDS, submission -> r -> r.reason(submission, question));
                Checks.promise(33);
                t.outside(0, last, Twin.BOUNDS, submission -> r -> r.root(submission, question));
                Checks.promise(34);
                t.outside(0, last, Twin.BOUNDS, submission -> r -> r.rootVersion(submission, question));
                Checks.promise(35);
                t.outside(0, last, Twin.BOUNDS, submission -> r -> r.causes(submission, question));
            }
            twins[i].goesOnAlike();
        }
    }

    /** The number of questions of the present version counts, not that of the own one. */
    private static void questionsThatAreNotThere() {
        for (int own = 1; own < 9; own += 7) {
            for (int present = 1; present < 9; present++) {
                Twin t = questions(newForm(), own).is(0, r -> r.publish(0)).is(0, r -> r.start(0, 0));
                t.is(1, r -> r.addVersion(0));
                questions(t, present).is(0, r -> r.publish(0));
                int last = present - 1;
                lacks(t, last, 'k', 'k', 1, 0);
                Checks.promise(31);
                t.outside(0, last, Twin.BOUNDS, question -> r -> r.carried(0, question));
                Checks.promise(32);
                t.outside(0, last, Twin.BOUNDS, question -> r -> r.reason(0, question));
                Checks.promise(33);
                t.outside(0, last, Twin.BOUNDS, question -> r -> r.root(0, question));
                Checks.promise(34);
                t.outside(0, last, Twin.BOUNDS, question -> r -> r.rootVersion(0, question));
                Checks.promise(35);
                t.outside(0, last, Twin.BOUNDS, question -> r -> r.causes(0, question)).goesOnAlike();
            }
        }
    }

    private static Twin questions(Twin t, int questions) {
        for (int i = 0; i < questions; i++) {
            int question = i;
            t.is(question, r -> r.addQuestion(0, question, 0, 9, 1));
        }
        return t;
    }

    private static void valuesHaveNoReason() {
        for (Twin t : new Twin[] {answered(0), answered(5, -5), mapped(answered(7), '*', 0)}) {
            carries(t, 0);
            Checks.promise(32);
            t.fails(Twin.STATE, r -> r.reason(0, 0));
            Checks.promise(33);
            t.fails(Twin.STATE, r -> r.root(0, 0));
            Checks.promise(34);
            t.fails(Twin.STATE, r -> r.rootVersion(0, 0));
            Checks.promise(35);
            t.fails(Twin.STATE, r -> r.causes(0, 0)).goesOnAlike();
        }
    }

    private static void draftsAreNotPresent() {
        Twin t = answered(4).is(1, r -> r.addVersion(0)).is(0, r -> r.addQuestion(0, 0, 0, 9, 1));
        t.is(1, r -> r.addQuestion(0, 1, 0, 9, 1)).is(1, r -> r.setMap(0, 0, 0, '+', 1));
        carries(t, 4).fails(Twin.BOUNDS, r -> r.carried(0, 1)).is(0, r -> r.publish(0));
        carries(t, 5).fails(Twin.NO_ELEMENT, r -> r.carried(0, 1)).goesOnAlike();
    }

    private static void numbersOfMaps() {
        carries(mapped(answered(-999, 999, 7), '=', 99), 7);
        carries(mapped(answered(900), '+', 99), 999);
        lacks(mapped(answered(901), '+', 99), 0, 'r', 'r', 1, 0);
        carries(mapped(answered(-900), '+', -99), -999);
        lacks(mapped(answered(-901), '+', -99), 0, 'r', 'r', 1, 0);
        carries(mapped(answered(1, 2, 3, 4), '+', 99), 406);
        carries(mapped(answered(10), '*', 99), 990);
        lacks(mapped(answered(11), '*', 99), 0, 'r', 'r', 1, 0);
        carries(mapped(answered(10, -10, 9), '*', -99), -891);
        lacks(mapped(answered(999), '*', 99), 0, 'r', 'r', 1, 0);
        carries(mapped(answered(999, -999, 998, 5), '*', 0), 0);
        carries(mapped(answered(999, -999, 5), '*', -1), -5);
        carries(mapped(answered(999, -998), '/', 1), 1);
        carries(mapped(answered(999, -998), '/', -1), -1);
        // Rounded towards 0 on both sides, each answer by itself.
        int[] answers = {-999, -101, -100, -99, -98, -5, -3, -2, -1, 0, 1, 2, 3, 5, 98, 99, 100, 101, 999};
        for (int answer : answers) {
            for (int number : new int[] {-99, -98, -5, -3, -2, 2, 3, 5, 98, 99}) {
                int size = Math.abs(answer) / Math.abs(number);
                carries(mapped(answered(answer), '/', number), answer < 0 == number < 0 ? size : -size);
            }
        }
        carries(mapped(answered(1, 1, 1, 1), '/', 2), 0);
        carries(mapped(answered(-1, -1, -1, -1), '/', 2), 0);
        carries(mapped(answered(3, 3, -3, 3), '/', 2), 2);
        carries(mapped(answered(98, 98, 98, 99), '/', 99), 1);
    }

    /** Each answer is from the least to the greatest one, whatever their sum is. */
    private static void rangesOfWhatIsCarried() {
        for (int least = -2; least < 3; least++) {
            for (int greatest = least; greatest < 4; greatest++) {
                carries(mapped(answered(least, greatest, least), '=', 0, least, greatest, 4), least + greatest + least);
                carries(mapped(answered(least, greatest), '+', 9, least + 9, greatest + 9, 4), least + greatest + 18);
                lacks(mapped(answered(least, greatest + 1), '=', 0, least, greatest, 4), 0, 'r', 'r', 1, 0);
                lacks(mapped(answered(greatest + 1, least), '=', 0, least, greatest, 4), 0, 'r', 'r', 1, 0);
                lacks(mapped(answered(least - 1, greatest), '=', 0, least, greatest, 4), 0, 'r', 'r', 1, 0);
                lacks(mapped(answered(greatest, greatest, greatest, least - 1), '=', 0, least, greatest, 4), 0, 'r', 'r', 1, 0);
            }
        }
        // None is carried if one can't be: the amending draft has no answers.
        Twin t = mapped(answered(1, 2, 10), '=', 0, 0, 9, 4).is(0, r -> r.submit(0)).is(1, r -> r.amend(0));
        t.is(0, r -> r.answers(1, 0)).fails(Twin.NO_ELEMENT, r -> r.takeBack(1, 0)).goesOnAlike();
    }

    private static void answersThatAreTooMany() {
        int[][] answers = {{1}, {1, 2}, {1, 2, 3}, {1, 2, 3, 4}};
        for (int count = 1; count < 5; count++) {
            for (int most = 1; most < 5; most++) {
                Twin t = mapped(answered(answers[count - 1]), '=', 0, 0, 9, most);
                if (count <= most) {
                    carries(t, count * (count + 1) / 2).goesOnAlike();
                } else {
                    lacks(t, 0, 'm', 'm', 1, 0).goesOnAlike();
                }
            }
        }
        // In their order: the last one is taken back first.
        Twin t = mapped(answered(4, 1, 3, 2), '*', 10, 0, 40, 4).is(0, r -> r.submit(0)).is(1, r -> r.amend(0));
        t.fails(Twin.ARGUMENT, r -> r.answer(1, 0, 5)).is(20, r -> r.takeBack(1, 0)).is(30, r -> r.takeBack(1, 0));
        t.is(10, r -> r.takeBack(1, 0)).is(40, r -> r.takeBack(1, 0)).fails(Twin.NO_ELEMENT, r -> r.takeBack(1, 0)).goesOnAlike();
    }

    /** A computed question of any value, carried to a question with one answer at most. */
    private static Twin computed(int answer, char kind, int number, int least, int greatest) {
        Twin t = newForm().is(0, r -> r.addQuestion(0, 0, -999, 999, 4)).is(1, r -> r.addComputed(0, 1, '*', 0, 0));
        t.is(2, r -> r.addComputed(0, 2, '-', 0, 1)).is(3, r -> r.addComputed(0, 3, '-', 2, 1)).is(0, r -> r.publish(0));
        t.is(0, r -> r.start(0, 0)).is(1, r -> r.answer(0, 0, answer)).is(2, r -> r.answer(0, 0, 0)).is(1, r -> r.addVersion(0));
        t.is(0, r -> r.addQuestion(0, 0, least, greatest, 1)).is(1, r -> r.addQuestion(0, 1, -999, 999, 1));
        t.is(1, r -> r.setMap(0, 0, 1, kind, number)).is(2, r -> r.setMap(0, 1, 3, '/', 99)).is(0, r -> r.publish(0));
        return t;
    }

    private static void computedQuestionsAreOneAnswer() {
        carries(computed(31, '=', 0, 0, 961), 961).goesOnAlike();
        lacks(computed(31, '=', 0, 0, 960), 0, 'r', 'r', 1, 0).goesOnAlike();
        carries(computed(31, '=', 0, 961, 999), 961).goesOnAlike();
        lacks(computed(31, '=', 0, 962, 999), 0, 'r', 'r', 1, 0).goesOnAlike();
        // 9999 and -9999 instead of greater and lesser numbers: divided, these are just 101 and -101.
        carries(computed(999, '/', 99, 101, 101), 101).is(-101, r -> r.carried(0, 1)).goesOnAlike();
        carries(computed(-999, '/', -99, -101, -101), -101).is(-101, r -> r.carried(0, 1)).goesOnAlike();
        lacks(computed(999, '*', 99, -999, 999), 0, 'r', 'r', 1, 0).goesOnAlike();
        lacks(computed(999, '*', -99, -999, 999), 0, 'r', 'r', 1, 0).goesOnAlike();
        carries(computed(999, '*', 0, 0, 0), 0).goesOnAlike();
        lacks(computed(999, '+', 99, -999, 999), 0, 'r', 'r', 1, 0).goesOnAlike();
    }

    /** A later version: k, f, m, r and c, in this order; the own one: c and n. */
    private static void theFirstReasonThatApplies() {
        // The question 1 has too many answers out of range, and is not asked; 2 to 5 each lack one thing less.
        Twin t = newForm().is(0, r -> r.addQuestion(0, 0, 0, 99, 2)).is(1, r -> r.addQuestion(0, 1, 0, 99, 1));
        t.is(0, r -> r.publish(0)).is(0, r -> r.start(0, 0)).is(1, r -> r.answer(0, 0, 50)).is(2, r -> r.answer(0, 0, 51));
        t.is(1, r -> r.addVersion(0)).is(0, r -> r.addQuestion(0, 0, 0, 9, 1));
        int[][] rows = {{9, 1}, {9, 1}, {9, 1}, {9, 2}, {99, 2}, {99, 2}};
        for (int i = 1; i < 6; i++) {
            int question = i;
            t.is(question, r -> r.addQuestion(0, question, 0, rows[question][0], rows[question][1]));
            if (question < 5) {
                t.is(question, r -> r.setCondition(0, question, 0, '>', 0));
            }
            if (question > 1) {
                t.is(question - 1, r -> r.setMap(0, question, question == 2 ? 1 : 0, '=', 0));
            }
        }
        t.is(6, r -> r.addQuestion(0, 6, 0, 9, 1)).is(5, r -> r.setCondition(0, 6, 0, '>', 0)).is(5, r -> r.setMap(0, 6, 0, '=', 0));
        t.is(0, r -> r.publish(0));
        lacks(t, 1, 'k', 'k', 1, 0);
        lacks(t, 2, 'f', 'n', 0, 1);
        lacks(t, 6, 'm', 'm', 1, 0);
        lacks(t, 3, 'r', 'r', 1, 0);
        lacks(t, 4, 'c', 'c', 1, 0).is(101, r -> r.carried(0, 5)).goesOnAlike();
        Twin s = newForm().is(0, r -> r.addQuestion(0, 0, 0, 9, 1)).is(1, r -> r.addQuestion(0, 1, 0, 9, 1));
        s.is(1, r -> r.setCondition(0, 1, 0, '>', 5)).is(0, r -> r.publish(0)).is(0, r -> r.start(0, 0));
        lacks(s, 0, 'n', 'n', 0, 0);
        lacks(s, 1, 'c', 'c', 0, 0).is(1, r -> r.answer(0, 0, 5));
        lacks(s, 1, 'n', 'n', 0, 0).is(1, r -> r.answer(0, 1, 0)).fails(Twin.STATE, r -> r.reason(0, 1));
        s.is(5, r -> r.takeBack(0, 0));
        lacks(s, 1, 'c', 'c', 0, 0).goesOnAlike();
    }

    /** The cause of 'p' is the first one without a value: the question 0 lacks answers, 1 is not asked. */
    private static void theFirstQuestionThatLacks() {
        Twin t = newForm().is(0, r -> r.addQuestion(0, 0, 0, 9, 1)).is(1, r -> r.addQuestion(0, 1, 0, 9, 1));
        t.is(1, r -> r.setCondition(0, 1, 0, '>', 5)).is(2, r -> r.addComputed(0, 2, '+', 0, 1));
        t.is(3, r -> r.addComputed(0, 3, '+', 1, 0)).is(4, r -> r.addComputed(0, 4, '+', 3, 2)).is(5, r -> r.addComputed(0, 5, '+', 0, 4));
        t.is(6, r -> r.addComputed(0, 6, '+', 4, 0)).is(7, r -> r.addComputed(0, 7, '+', 1, 1)).is(0, r -> r.publish(0));
        t.is(0, r -> r.start(0, 0));
        lacks(t, 2, 'p', 'n', 0, 1);
        lacks(t, 3, 'p', 'c', 0, 1);
        lacks(t, 4, 'p', 'c', 0, 2);
        lacks(t, 5, 'p', 'n', 0, 1);
        lacks(t, 6, 'p', 'c', 0, 3);
        lacks(t, 7, 'p', 'c', 0, 1).is(1, r -> r.answer(0, 0, 4));
        // Now only the question 1 lacks, as the second one of the question 2.
        lacks(t, 2, 'p', 'c', 0, 1);
        lacks(t, 5, 'p', 'c', 0, 3);
        lacks(t, 6, 'p', 'c', 0, 3).goesOnAlike();
    }

    /** A root in each of the four versions, seen from the last one. */
    private static void rootsInEachVersion() {
        Twin t = answered();
        mapped(mapped(mapped(t, '=', 0), '=', 0), '=', 0);
        lacks(t, 0, 'f', 'n', 0, 3).goesOnAlike();
        for (int i = 1; i < 4; i++) {
            int version = i;
            Twin ranged = answered(50);
            Twin crowded = answered(5, 6);
            Twin unmapped = answered(5);
            for (int j = 1; j < 4; j++) {
                mapped(ranged, '=', 0, 0, j == version ? 9 : 99, 1);
                mapped(crowded, '=', 0, 0, 99, j == version ? 1 : 2);
                if (j == version) {
                    unmapped.is(version, r -> r.addVersion(0)).is(0, r -> r.addQuestion(0, 0, 0, 99, 1)).is(0, r -> r.publish(0));
                } else {
                    mapped(unmapped, '=', 0);
                }
            }
            lacks(ranged, 0, version == 3 ? 'r' : 'f', 'r', version, 3 - version).goesOnAlike();
            lacks(crowded, 0, version == 3 ? 'm' : 'f', 'm', version, 3 - version).goesOnAlike();
            lacks(unmapped, 0, version == 3 ? 'k' : 'f', 'k', version, 3 - version).goesOnAlike();
        }
    }

    /** A plain question and seven computed ones in a row, in four versions: 31 causes up to the root. */
    private static void theLongestRowOfCauses() {
        Twin t = newForm();
        for (int i = 0; i < 4; i++) {
            int version = i;
            if (version > 0) {
                t.is(version, r -> r.addVersion(0));
            }
            t.is(0, r -> r.addQuestion(0, 0, -999, 999, 4));
            for (int j = 1; j < 8; j++) {
                int question = j;
                t.is(question, r -> r.addComputed(0, question, 'g', question - 1, question - 1));
            }
            if (version > 0) {
                t.is(1, r -> r.setMap(0, 0, 7, '=', 0));
            }
            t.is(0, r -> r.publish(0));
            if (version == 0) {
                t.is(0, r -> r.start(0, 0));
            }
            for (int question = 1; question < 8; question++) {
                lacks(t, question, 'p', 'n', 0, 8 * version + question);
            }
            lacks(t, 0, version == 0 ? 'n' : 'f', 'n', 0, 8 * version);
        }
        t.is(31, r -> r.causes(0, 7)).is(1, r -> r.answer(0, 0, 6)).is(6, r -> r.carried(0, 7)).goesOnAlike();
    }

    /** What is carried is told of drafted, ended, replaced and gone submissions, too. */
    private static void submissionsInAllStates() {
        Checks.promise(31);
        Twin t = newForm().is(0, r -> r.addQuestion(0, 0, 0, 9, 1)).is(100, r -> r.setKeeping(0, 1, -1, 0, 0)).is(0, r -> r.publish(0));
        for (int i = 0; i < 4; i++) {
            int submission = i;
            t.is(submission, r -> r.start(submission, 0)).is(1, r -> r.answer(submission, 0, submission + 1));
        }
        t.is('d', r -> r.withdraw(1)).is(0, r -> r.submit(2)).is(0, r -> r.submit(3)).is(4, r -> r.amend(3)).is(0, r -> r.submit(4));
        t.is(2, r -> r.pass(1)).is('g', r -> r.state(2)).is('o', r -> r.state(3));
        mapped(t, '+', 5, 0, 99, 1);
        t.is(6, r -> r.carried(0, 0)).is(7, r -> r.carried(1, 0)).fails(Twin.NO_ELEMENT, r -> r.carried(2, 0));
        t.is(9, r -> r.carried(3, 0)).is('f', r -> r.reason(2, 0)).is('n', r -> r.root(2, 0)).is(0, r -> r.rootVersion(2, 0));
        t.is(1, r -> r.causes(2, 0)).fails(Twin.STATE, r -> r.reason(1, 0)).goesOnAlike();
    }

    /** Looks at one submission between those at another one, and refused ones, change nothing of what is carried. */
    private static void nothingIsLeftFromRefusals() {
        Twin t = answered(5).is(1, r -> r.start(1, 0)).is(1, r -> r.answer(1, 0, 50));
        mapped(t, '=', 0, 0, 9, 1);
        for (int times = 0; times < 3; times++) {
            carries(t, 5).fails(Twin.STATE, r -> r.root(0, 0)).is('r', r -> r.root(1, 0));
            t.fails(Twin.NO_ELEMENT, r -> r.carried(1, 0)).fails(Twin.BOUNDS, r -> r.carried(1, 1)).is(5, r -> r.carried(0, 0));
        }
        t.goesOnAlike();
    }

    private CarryBoundsTest() {
    }
}

/** Promises 31 to 35: what is carried, and the reasons why something is not. */
public final class CarryingTest {
    public static void main(String[] args) {
        kindsOfMaps();
        ranges();
        computedSources();
        whatIsLooked();
        ownReasons();
        carriedReasons();
        rootsOverVersions();
        goneAnswers();
        conditionsAfterCarrying();
        oneAfterTheOther();
        Checks.end();
    }

    /** A form whose version 0 has a question (-999 to 999, 4 answers at most), published and answered so. */
    private static FormRiver answered(int... answers) {
        FormRiver r = new FormRiver();
        r.addForm();
        r.addQuestion(0, 0, -999, 999, 4);
        r.publish(0);
        r.start(0, 0);
        for (int answer : answers) {
            r.answer(0, 0, answer);
        }
        return r;
    }

    /** Publishes a version with one question, mapped from the question 0. */
    private static FormRiver mapped(FormRiver r, char kind, int number, int least, int greatest, int most) {
        r.addVersion(0);
        r.addQuestion(0, 0, least, greatest, most);
        r.setMap(0, 0, 0, kind, number);
        r.publish(0);
        return r;
    }

    private static void kindsOfMaps() {
        Checks.promise(31);
        Checks.is(4, mapped(answered(7, -3), '=', 50, -999, 999, 4).carried(0, 0));
        Checks.is(-6, mapped(answered(7, -3), '+', -5, -999, 999, 4).carried(0, 0));
        Checks.is(-8, mapped(answered(7, -3), '*', -2, -999, 999, 4).carried(0, 0));
        Checks.is(0, mapped(answered(7, -3), '*', 0, 0, 0, 2).carried(0, 0));
        // Each answer is rounded towards 0: 3 and -1 by 2; -3 and 1 by -2.
        Checks.is(2, mapped(answered(7, -3), '/', 2, -999, 999, 4).carried(0, 0));
        Checks.is(-2, mapped(answered(7, -3), '/', -2, -999, 999, 4).carried(0, 0));
        Checks.is(-4, mapped(answered(7, -3), '/', -1, -999, 999, 4).carried(0, 0));
        FormRiver r = mapped(answered(-7), '/', 2, -999, 999, 4);
        Checks.is(-3, r.carried(0, 0));
        // Three versions: (5 * 3 - 4) / 2.
        FormRiver s = mapped(answered(5), '*', 3, 0, 99, 1);
        mapped(s, '+', -4, 0, 99, 1);
        mapped(s, '/', 2, 0, 99, 1);
        Checks.is(5, s.carried(0, 0));
        Checks.is(3, s.present(0));
        // In its own version a submission is as it is.
        Checks.is(5, s.value(0, 0));
    }

    private static void ranges() {
        Checks.promise(32);
        Checks.is('r', mapped(answered(5, 10), '=', 0, 0, 9, 4).reason(0, 0));
        Checks.is('r', mapped(answered(5, -1), '=', 0, 0, 9, 4).reason(0, 0));
        Checks.is('r', mapped(answered(10, 5), '=', 0, 0, 9, 4).reason(0, 0));
        Checks.is(9, mapped(answered(9, 0), '=', 0, 0, 9, 4).carried(0, 0));
        Checks.is('m', mapped(answered(50, 1, 1), '=', 0, 0, 9, 2).reason(0, 0));
        Checks.is(3, mapped(answered(1, 1, 1), '=', 0, 0, 9, 3).carried(0, 0));
        // It has no answers then, not some of them.
        FormRiver r = mapped(answered(5, 10), '=', 0, 0, 9, 4);
        Checks.fails(Checks.NO_ELEMENT, () -> r.carried(0, 0));
        r.submit(0);
        r.amend(0);
        Checks.is(0, r.answers(1, 0));
    }

    private static void computedSources() {
        Checks.promise(31);
        FormRiver r = new FormRiver();
        r.addForm();
        r.addQuestion(0, 0, 0, 99, 4);
        r.addComputed(0, 1, '*', 0, 0);
        r.publish(0);
        r.start(0, 0);
        r.answer(0, 0, 3);
        r.answer(0, 0, 4);
        r.addVersion(0);
        // Its value 49 counts as one answer.
        r.addQuestion(0, 1, 0, 99, 1);
        r.setMap(0, 0, 1, '+', 1);
        r.addQuestion(0, 2, 0, 99, 4);
        r.setMap(0, 1, 0, '=', 0);
        r.addComputed(0, 3, '-', 0, 1);
        r.publish(0);
        Checks.is(50, r.carried(0, 0));
        Checks.is(7, r.carried(0, 1));
        Checks.is(43, r.carried(0, 2));
        r.answer(0, 0, 9);
        Checks.is('r', r.reason(0, 0));
        Checks.is(16, r.carried(0, 1));
    }

    private static void whatIsLooked() {
        FormRiver r = mapped(answered(1), '=', 0, 0, 9, 1);
        r.addVersion(0);
        r.addQuestion(0, 0, 0, 9, 1);
        r.addQuestion(0, 1, 0, 9, 1);
        r.setMap(0, 1, 0, '=', 0);
        r.publish(0);
        Checks.promise(31);
        Checks.fails(Checks.BOUNDS, () -> r.carried(1, 0));
        Checks.fails(Checks.BOUNDS, () -> r.carried(-1, 0));
        Checks.fails(Checks.BOUNDS, () -> r.carried(0, 2));
        Checks.fails(Checks.BOUNDS, () -> r.carried(0, -1));
        Checks.fails(Checks.NO_ELEMENT, () -> r.carried(0, 0));
        Checks.is(1, r.carried(0, 1));
        Checks.promise(32);
        Checks.fails(Checks.BOUNDS, () -> r.reason(1, 0));
        Checks.fails(Checks.BOUNDS, () -> r.reason(0, 2));
        Checks.fails(Checks.BOUNDS, () -> r.reason(0, -1));
        Checks.fails(Checks.STATE, () -> r.reason(0, 1));
        Checks.is('k', r.reason(0, 0));
        Checks.promise(33);
        Checks.fails(Checks.BOUNDS, () -> r.root(1, 0));
        Checks.fails(Checks.BOUNDS, () -> r.root(0, 2));
        Checks.fails(Checks.BOUNDS, () -> r.root(0, -1));
        Checks.fails(Checks.STATE, () -> r.root(0, 1));
        Checks.is('k', r.root(0, 0));
        Checks.promise(34);
        Checks.fails(Checks.BOUNDS, () -> r.rootVersion(1, 0));
        Checks.fails(Checks.BOUNDS, () -> r.rootVersion(0, 2));
        Checks.fails(Checks.BOUNDS, () -> r.rootVersion(0, -1));
        Checks.fails(Checks.STATE, () -> r.rootVersion(0, 1));
        Checks.is(2, r.rootVersion(0, 0));
        Checks.promise(35);
        Checks.fails(Checks.BOUNDS, () -> r.causes(1, 0));
        Checks.fails(Checks.BOUNDS, () -> r.causes(0, 2));
        Checks.fails(Checks.BOUNDS, () -> r.causes(0, -1));
        Checks.fails(Checks.STATE, () -> r.causes(0, 1));
        Checks.is(0, r.causes(0, 0));
    }

    private static void ownReasons() {
        FormRiver r = new FormRiver();
        r.addForm();
        r.addQuestion(0, 0, 0, 9, 1);
        r.addQuestion(0, 1, 0, 9, 1);
        r.setCondition(0, 1, 0, '>', 5);
        r.addComputed(0, 2, '+', 0, 1);
        r.addComputed(0, 3, '+', 1, 0);
        r.addComputed(0, 4, '+', 2, 2);
        r.publish(0);
        r.start(0, 0);
        Checks.promise(32);
        Checks.is('n', r.reason(0, 0));
        Checks.is('c', r.reason(0, 1));
        Checks.is('p', r.reason(0, 2));
        Checks.promise(33);
        // The first one of its questions without a value is the cause.
        Checks.is('n', r.root(0, 2));
        Checks.is('c', r.root(0, 3));
        Checks.is('n', r.root(0, 4));
        Checks.promise(35);
        Checks.is(0, r.causes(0, 0));
        Checks.is(1, r.causes(0, 3));
        Checks.is(2, r.causes(0, 4));
        Checks.promise(34);
        Checks.is(0, r.rootVersion(0, 4));
        r.answer(0, 0, 6);
        Checks.promise(32);
        Checks.is('n', r.reason(0, 1));
        Checks.is('p', r.reason(0, 2));
        Checks.is('p', r.reason(0, 3));
        r.answer(0, 1, 1);
        r.takeBack(0, 0);
        r.answer(0, 0, 5);
        r.takeBack(0, 0);
        r.answer(0, 0, 4);
        // With answers, but not asked.
        Checks.is('c', r.reason(0, 1));
        Checks.promise(33);
        Checks.is('c', r.root(0, 2));
        Checks.is('c', r.root(0, 4));
        Checks.fails(Checks.STATE, () -> r.root(0, 0));
    }

    private static void carriedReasons() {
        FormRiver r = new FormRiver();
        r.addForm();
        r.addQuestion(0, 0, 0, 99, 2);
        r.addQuestion(0, 1, 0, 99, 2);
        r.publish(0);
        r.start(0, 0);
        r.answer(0, 0, 50);
        r.answer(0, 0, 1);
        r.addVersion(0);
        r.addQuestion(0, 0, 0, 9, 1);
        r.setMap(0, 0, 0, '=', 0);
        r.addQuestion(0, 1, 0, 9, 1);
        r.setMap(0, 1, 1, '=', 0);
        r.setCondition(0, 1, 0, '>', 0);
        r.addQuestion(0, 2, 0, 9, 1);
        r.setCondition(0, 2, 0, '>', 0);
        r.addQuestion(0, 3, 0, 99, 2);
        r.setMap(0, 3, 0, '=', 0);
        r.setCondition(0, 3, 0, '<', 9);
        r.addQuestion(0, 4, 0, 9, 2);
        r.setMap(0, 4, 0, '=', 0);
        r.setCondition(0, 4, 0, '=', 9);
        r.addComputed(0, 5, '+', 3, 2);
        r.publish(0);
        Checks.promise(32);
        Checks.is('m', r.reason(0, 0));
        // Not asked either, but this comes last.
        Checks.is('f', r.reason(0, 1));
        Checks.is('k', r.reason(0, 2));
        Checks.is('r', r.reason(0, 4));
        Checks.is('c', r.reason(0, 3));
        Checks.is('p', r.reason(0, 5));
        Checks.promise(33);
        Checks.is('n', r.root(0, 1));
        Checks.is('c', r.root(0, 5));
        Checks.promise(34);
        Checks.is(0, r.rootVersion(0, 1));
        Checks.is(1, r.rootVersion(0, 5));
        Checks.is(1, r.rootVersion(0, 0));
        Checks.promise(35);
        Checks.is(1, r.causes(0, 1));
        Checks.is(1, r.causes(0, 5));
    }

    private static void rootsOverVersions() {
        FormRiver r = answered(5);
        mapped(r, '*', 3, 0, 9, 1);
        r.addVersion(0);
        r.addQuestion(0, 0, 0, 9, 1);
        r.setMap(0, 0, 0, '=', 0);
        r.addComputed(0, 1, '+', 0, 0);
        r.publish(0);
        r.addVersion(0);
        r.addQuestion(0, 5, 0, 9, 1);
        r.setMap(0, 0, 1, '=', 0);
        r.addComputed(0, 1, 'l', 0, 0);
        r.publish(0);
        // p, f, p, f and r: computed in 3, mapped from computed in 2, mapped from 1, out of range there.
        Checks.promise(32);
        Checks.is('p', r.reason(0, 1));
        Checks.is('f', r.reason(0, 0));
        Checks.promise(33);
        Checks.is('r', r.root(0, 1));
        Checks.promise(34);
        Checks.is(1, r.rootVersion(0, 1));
        Checks.promise(35);
        Checks.is(4, r.causes(0, 1));
        Checks.is(3, r.causes(0, 0));
        // A question that is not asked in a version between has no value there.
        FormRiver s = answered(5);
        s.addVersion(0);
        s.addQuestion(0, 1, 0, 9, 1);
        s.addQuestion(0, 0, 0, 9, 1);
        s.setMap(0, 1, 0, '=', 0);
        s.setCondition(0, 1, 0, '>', 0);
        s.publish(0);
        Checks.promise(32);
        Checks.is('c', s.reason(0, 1));
        s.addVersion(0);
        s.addQuestion(0, 0, 0, 9, 1);
        s.setMap(0, 0, 1, '=', 0);
        s.publish(0);
        Checks.is('f', s.reason(0, 0));
        Checks.promise(33);
        Checks.is('c', s.root(0, 0));
        Checks.promise(34);
        Checks.is(1, s.rootVersion(0, 0));
    }

    private static void goneAnswers() {
        Checks.promise(27);
        FormRiver r = answered(5);
        r.submit(0);
        r.pass(60);
        Checks.is(1, r.answers(0, 0));
        r.pass(40);
        Checks.is('g', r.state(0));
        Checks.is(0, r.answers(0, 0));
        Checks.fails(Checks.NO_ELEMENT, () -> r.value(0, 0));
        Checks.fails(Checks.NO_ELEMENT, () -> r.carried(0, 0));
        Checks.is('n', r.reason(0, 0));
        mapped(r, '=', 0, 0, 9, 1);
        Checks.is('f', r.reason(0, 0));
        Checks.is('n', r.root(0, 0));
        Checks.is(0, r.rootVersion(0, 0));
    }

    /** A version whose question 1 gets the answers of the question 0 and is asked if the own one is at least 5. */
    private static FormRiver withCondition(FormRiver r) {
        r.addVersion(0);
        r.addQuestion(0, 1, -999, 999, 4);
        r.setMap(0, 0, 0, '=', 0);
        r.addQuestion(0, 0, 0, 999, 4);
        r.setMap(0, 1, 0, '=', 0);
        r.setCondition(0, 1, 0, '>', 5);
        r.addComputed(0, 2, '+', 0, 1);
        r.publish(0);
        return r;
    }

    private static void conditionsAfterCarrying() {
        FormRiver r = withCondition(answered(5));
        Checks.promise(31);
        Checks.is(5, r.carried(0, 1));
        Checks.is(10, r.carried(0, 2));
        FormRiver s = withCondition(answered(4));
        Checks.promise(32);
        Checks.is('c', s.reason(0, 1));
        Checks.is('p', s.reason(0, 2));
        Checks.promise(33);
        Checks.is('c', s.root(0, 2));
    }

    /** What was carried for one submission leaves no trace in what is carried for the next one. */
    private static void oneAfterTheOther() {
        FormRiver r = answered(6, -1);
        r.start(0, 0);
        r.answer(1, 0, 4);
        r.start(0, 0);
        r.start(0, 0);
        r.answer(3, 0, -2);
        withCondition(r);
        for (int times = 0; times < 2; times++) {
            Checks.promise(32);
            Checks.is('r', r.reason(0, 1));
            Checks.is('c', r.reason(1, 1));
            Checks.is('f', r.reason(2, 1));
            Checks.is('r', r.reason(3, 1));
            Checks.promise(33);
            Checks.is('r', r.root(0, 1));
            Checks.is('c', r.root(1, 1));
            Checks.is('n', r.root(2, 1));
            Checks.is('r', r.root(3, 1));
            Checks.promise(34);
            Checks.is(0, r.rootVersion(2, 1));
            Checks.is(1, r.rootVersion(3, 1));
            Checks.promise(35);
            Checks.is(0, r.causes(0, 1));
            Checks.is(1, r.causes(2, 1));
            Checks.is(0, r.causes(3, 1));
            Checks.is(2, r.causes(2, 2));
            Checks.is(1, r.causes(1, 2));
            r.answer(0, 0, 9);
            r.takeBack(0, 0);
            Checks.promise(31);
            Checks.is(4, r.carried(1, 0));
            Checks.fails(Checks.NO_ELEMENT, () -> r.carried(1, 1));
            Checks.fails(Checks.NO_ELEMENT, () -> r.carried(2, 0));
        }
    }

    private CarryingTest() {
    }
}

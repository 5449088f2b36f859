/** The boundary cases of the promises 42 to 45: days, and for how long submissions are kept. */
public final class DayBoundsTest {
    public static void main(String[] args) {
        rangesOfPassing();
        theLastDayOfAll();
        rangesOfHolding();
        lastDaysByStates();
        keptToTheDay();
        keptLongerFromTheBoundOn();
        keptAsLongAsCanBe();
        goneOnTheLastDayOfAll();
        goneWhenHeldNoMore();
        allGoneAtOnce();
        approvedBeforeGone();
        Checks.end();
    }

    private static Twin newForm() {
        return new Twin().is(0, r -> r.addForm()).is(0, r -> r.addQuestion(0, 0, -99, 99, 1));
    }

    private static Twin keptFor(int days) {
        return newForm().is(100, r -> r.setKeeping(0, days, -1, 0, 0)).is(0, r -> r.publish(0));
    }

    private static Twin accepted(Twin t, int submission, int answer) {
        t.is(submission, r -> r.start(submission % 6, 0)).is(1, r -> r.answer(submission, 0, answer));
        return t.is(0, r -> r.submit(submission)).is('a', r -> r.state(submission));
    }

    /** Lets this many days pass on which nothing is gone. */
    private static Twin passes(Twin t, int days) {
        for (int rest = days; rest > 0; rest -= 60) {
            int step = Math.min(60, rest);
            t.is(0, r -> r.pass(step));
        }
        return t;
    }

    private static void rangesOfPassing() {
        Checks.promise(44);
        Twin.range(1, 60, Twin.ARGUMENT, Twin::new, 0, days -> r -> r.pass(days));
        Checks.promise(45);
        Twin t = new Twin().is(0, r -> r.day());
        int day = 0;
        for (int i = 1; i < 61; i++) {
            int days = i;
            day += days;
            int then = day;
            t.is(0, r -> r.pass(days)).is(then, r -> r.day());
        }
        t.is(1830, r -> r.day());
        Checks.promise(44);
        t.outside(1, 60, Twin.ARGUMENT, days -> r -> r.pass(days)).is(1830, r -> r.day()).goesOnAlike();
    }

    private static void theLastDayOfAll() {
        Checks.promise(44);
        for (int i = 1; i < 61; i++) {
            int days = i;
            Twin t = passes(new Twin(), 2000 - days).is(2000 - days, r -> r.day());
            for (int j = days + 1; j < 62; j++) {
                int more = j;
                t.fails(Twin.ARGUMENT, r -> r.pass(more));
            }
            t.is(0, r -> r.pass(days)).is(2000, r -> r.day()).outside(1, 0, Twin.ARGUMENT, more -> r -> r.pass(more));
            t.is(2000, r -> r.day());
        }
    }

    private static void rangesOfHolding() {
        Checks.promise(42);
        Twin.range(0, 5, Twin.BOUNDS, Twin::new, false, person -> r -> r.hold(person, true));
        Twin.range(0, 5, Twin.BOUNDS, Twin::new, false, person -> r -> r.hold(person, false));
        Twin t = new Twin();
        for (int i = 0; i < 6; i++) {
            int person = i;
            t.is(false, r -> r.hold(person, false)).is(false, r -> r.hold(person, true)).is(true, r -> r.hold(person, true));
            t.outside(0, 5, Twin.BOUNDS, wrong -> r -> r.hold(wrong, false));
        }
        for (int i = 0; i < 6; i++) {
            int person = i;
            t.is(true, r -> r.hold(person, false)).is(false, r -> r.hold(person, false));
        }
        t.goesOnAlike();
    }

    private static void lastDaysByStates() {
        Checks.promise(43);
        Twin t = newForm().is(1, r -> r.addLeg(0, 0, 0, 0, 50, 0)).is(100, r -> r.setKeeping(0, 9, -1, 0, 0)).is(0, r -> r.publish(0));
        t.outside(0, -1, Twin.BOUNDS, submission -> r -> r.lastDay(submission));
        accepted(t, 0, 1).is(0, r -> r.pass(4)).is(1, r -> r.start(1, 0)).is(1, r -> r.answer(1, 0, 50));
        t.fails(Twin.STATE, r -> r.lastDay(1)).is(1, r -> r.submit(1)).fails(Twin.STATE, r -> r.lastDay(1));
        t.is(1, r -> r.sendBack(1, 0, 1)).fails(Twin.STATE, r -> r.lastDay(1)).is('r', r -> r.withdraw(1));
        t.fails(Twin.STATE, r -> r.lastDay(1));
        accepted(t, 2, 3).is(3, r -> r.amend(2)).is(0, r -> r.submit(3)).fails(Twin.STATE, r -> r.lastDay(2));
        t.is(9, r -> r.lastDay(0)).is(13, r -> r.lastDay(3)).outside(0, 3, Twin.BOUNDS, submission -> r -> r.lastDay(submission));
        t.is(1, r -> r.pass(5)).fails(Twin.STATE, r -> r.lastDay(0)).is(13, r -> r.lastDay(3)).goesOnAlike();
    }

    private static void keptToTheDay() {
        Checks.promise(44);
        for (int days : new int[] {1, 2, 59, 60, 61, 100, 399, 400}) {
            for (int start : new int[] {0, 7}) {
                Twin t = accepted(passes(keptFor(days), start), 0, 5).is(start + days, r -> r.lastDay(0));
                passes(t, days - 1).is('a', r -> r.state(0)).is(5, r -> r.value(0, 0)).is(1, r -> r.counted(0));
                t.is(1, r -> r.pass(1)).is('g', r -> r.state(0)).is(0, r -> r.answers(0, 0)).is(0, r -> r.counted(0));
                t.fails(Twin.NO_ELEMENT, r -> r.record(0, 0)).is(0, r -> r.pass(1)).goesOnAlike();
            }
        }
        // 100 days at first.
        Twin t = accepted(newForm().is(0, r -> r.publish(0)), 0, 5).is(100, r -> r.lastDay(0));
        passes(t, 99).is('a', r -> r.state(0)).is(1, r -> r.pass(1)).goesOnAlike();
    }

    private static void keptLongerFromTheBoundOn() {
        Checks.promise(43);
        for (int bound : new int[] {-99, -1, 0, 1, 99}) {
            for (int i = -1; i < 2; i++) {
                int answer = Math.max(-99, Math.min(99, bound + i));
                Twin t = newForm().is(100, r -> r.setKeeping(0, 3, 0, bound, 4)).is(0, r -> r.publish(0));
                int last = answer >= bound ? 7 : 3;
                passes(accepted(t, 0, answer).is(last, r -> r.lastDay(0)), last - 1).is(1, r -> r.pass(1)).goesOnAlike();
            }
        }
        // Without a value it is kept no longer, whatever the bound; without a question neither.
        for (int i = 4; i < 6; i++) {
            int answer = i;
            Twin t = newForm().is(1, r -> r.addQuestion(0, 1, -99, 99, 1)).is(1, r -> r.setCondition(0, 1, 0, '>', 5));
            t.is(2, r -> r.addComputed(0, 2, '+', 0, 1)).is(100, r -> r.setKeeping(0, 3, 2, -9999, 4)).is(0, r -> r.publish(0));
            t.is(0, r -> r.start(0, 0)).is(1, r -> r.answer(0, 0, answer)).tries(r -> r.answer(0, 1, -99)).is(0, r -> r.submit(0));
            t.is(answer < 5 ? 3 : 7, r -> r.lastDay(0)).goesOnAlike();
        }
        Twin t = newForm().is(100, r -> r.setKeeping(0, 3, -1, -9999, 400)).is(0, r -> r.publish(0));
        accepted(t, 0, 99).is(3, r -> r.lastDay(0)).goesOnAlike();
        // The furthest bound, and a number just below it.
        for (int i = 0; i < 2; i++) {
            int answer = 98 + i;
            Twin s = newForm().is(1, r -> r.addQuestion(0, 1, 0, 101, 1)).is(2, r -> r.addComputed(0, 2, '*', 0, 1));
            s.is(100, r -> r.setKeeping(0, 3, 2, 9999, 400)).is(0, r -> r.publish(0)).is(0, r -> r.start(0, 0));
            s.is(1, r -> r.answer(0, 0, answer)).is(1, r -> r.answer(0, 1, 101)).is(0, r -> r.submit(0));
            s.is(answer == 99 ? 403 : 3, r -> r.lastDay(0)).goesOnAlike();
        }
    }

    private static void keptAsLongAsCanBe() {
        Checks.promise(44);
        Twin t = newForm().is(100, r -> r.setKeeping(0, 400, 0, 0, 400)).is(0, r -> r.publish(0));
        accepted(t, 0, 0).is(800, r -> r.lastDay(0));
        accepted(t, 1, -1).is(400, r -> r.lastDay(1));
        passes(t, 399).is(1, r -> r.pass(1)).is('g', r -> r.state(1)).is('a', r -> r.state(0));
        passes(t, 399).is('a', r -> r.state(0)).is(1, r -> r.pass(1)).is('g', r -> r.state(0)).goesOnAlike();
        // Longer by no day.
        Twin s = newForm().is(100, r -> r.setKeeping(0, 1, 0, 0, 0)).is(0, r -> r.publish(0));
        accepted(s, 0, 0).is(1, r -> r.lastDay(0)).is(1, r -> r.pass(1)).goesOnAlike();
    }

    private static void goneOnTheLastDayOfAll() {
        Checks.promise(44);
        Twin t = keptFor(5);
        passes(t, 1995);
        accepted(t, 0, 1).is(2000, r -> r.lastDay(0)).is(0, r -> r.pass(1));
        accepted(t, 1, 1).is(2001, r -> r.lastDay(1)).is(0, r -> r.pass(3)).is(1, r -> r.pass(1)).is('g', r -> r.state(0));
        t.is('a', r -> r.state(1)).is(2000, r -> r.day()).fails(Twin.ARGUMENT, r -> r.pass(1)).is('a', r -> r.state(1));
        // On the last day of all, it goes on but for the days.
        accepted(t, 2, 7).is(2005, r -> r.lastDay(2)).is(3, r -> r.amend(2)).is(0, r -> r.submit(3)).is('o', r -> r.state(2));
        t.goesOnAlike();
    }

    private static void goneWhenHeldNoMore() {
        Checks.promise(42);
        for (int held = 3; held < 6; held++) {
            Twin t = accepted(accepted(keptFor(3), 0, 5), 1, 6).is(false, r -> r.hold(0, true));
            t.is(0, r -> r.pass(2)).is(1, r -> r.pass(1)).is('a', r -> r.state(0)).is('g', r -> r.state(1));
            passes(t, held - 3).is(3, r -> r.lastDay(0)).is(5, r -> r.record(0, 0)).is(true, r -> r.hold(0, false));
            // A day has to come.
            t.is('a', r -> r.state(0)).is(1, r -> r.pass(1)).is('g', r -> r.state(0)).goesOnAlike();
        }
        // Held before the day and free on it: gone. Free before the day and held on it: kept.
        Twin t = accepted(accepted(keptFor(3), 0, 5), 1, 6).is(false, r -> r.hold(0, true)).is(0, r -> r.pass(2));
        t.is(true, r -> r.hold(0, false)).is(false, r -> r.hold(1, true)).is(1, r -> r.pass(1)).is('g', r -> r.state(0));
        t.is('a', r -> r.state(1)).goesOnAlike();
    }

    private static void allGoneAtOnce() {
        Checks.promise(44);
        Twin t = keptFor(60);
        for (int submission = 0; submission < 24; submission++) {
            accepted(t, submission, submission);
        }
        t.is(24, r -> r.counted(0)).is(0, r -> r.pass(59)).is(24, r -> r.pass(1)).is(0, r -> r.counted(0)).is(0, r -> r.pass(60));
        t.is(1.0, r -> r.acceptedShare()).goesOnAlike();
        // One each day, all in one call.
        Twin s = keptFor(30);
        for (int submission = 0; submission < 24; submission++) {
            accepted(s, submission, submission).is(0, r -> r.pass(1));
        }
        s.is(0, r -> r.pass(5)).is(24, r -> r.pass(60)).goesOnAlike();
        // All those with passed days but those of one person.
        Twin u = keptFor(10).is(false, r -> r.hold(5, true));
        for (int submission = 0; submission < 24; submission++) {
            accepted(u, submission, submission);
        }
        u.is(20, r -> r.pass(10)).is(4, r -> r.counted(0)).is(true, r -> r.hold(5, false)).is(4, r -> r.pass(1)).goesOnAlike();
    }

    /** On the same day, legs are approved first: what is replaced by this is not gone, what is accepted is kept anew. */
    private static void approvedBeforeGone() {
        Checks.promise(44);
        for (int i = 4; i < 7; i++) {
            int patience = i;
            Twin t = newForm().is(1, r -> r.addLeg(0, 0, 0, 0, 50, patience)).is(100, r -> r.setKeeping(0, 5, -1, 0, 0));
            accepted(t.is(0, r -> r.publish(0)), 0, 1).is(1, r -> r.amend(0)).is(1, r -> r.takeBack(1, 0)).is(1, r -> r.answer(1, 0, 50));
            t.is(1, r -> r.submit(1)).is(patience > 5 ? 1 : 0, r -> r.pass(6)).is(patience > 5 ? 'g' : 'o', r -> r.state(0));
            t.is('a', r -> r.state(1)).is(patience + 5, r -> r.lastDay(1)).is(1, r -> r.counted(0)).goesOnAlike();
        }
    }

    private DayBoundsTest() {
    }
}

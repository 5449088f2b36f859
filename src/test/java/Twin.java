import java.util.function.IntFunction;
import java.util.function.Supplier;

/**
 * Two programs: the one gets every call, the other one only those that are not refused. So a refused call that
 * changes something is found at once by all that can be looked at, and the rest of it by the calls that follow.
 */
final class Twin {
    static final Class<? extends Exception> BOUNDS = Checks.BOUNDS;
    static final Class<? extends Exception> ARGUMENT = Checks.ARGUMENT;
    static final Class<? extends Exception> STATE = Checks.STATE;
    static final Class<? extends Exception> UNSUPPORTED = Checks.UNSUPPORTED;
    static final Class<? extends Exception> NO_ELEMENT = Checks.NO_ELEMENT;
    static final Class<? extends Exception> ARITHMETIC = Checks.ARITHMETIC;

    /** A call of the face. */
    interface Call {
        Object on(FormRiver r);
    }

    private final FormRiver tried = new FormRiver();
    private final FormRiver spared = new FormRiver();
    /** What can be looked at in the spared program, empty if it had a call since. */
    private String sparedLooks = "";

    /** Numbers that no list and no range of the document has. */
    private static final int[] FAR = {Integer.MIN_VALUE, Integer.MIN_VALUE + 1, -1000000, -65536, 65536, 1 << 30,
        Integer.MAX_VALUE - 1, Integer.MAX_VALUE};

    /** Checks that a range ends where it does: the last numbers inside are taken, all others refused. */
    static void range(int least, int greatest, Class<? extends Exception> refusal, Supplier<Twin> world, Object want,
            IntFunction<Call> call) {
        world.get().is(want, call.apply(least)).alike();
        world.get().is(want, call.apply(greatest)).alike();
        world.get().outside(least, greatest, refusal, call).goesOnAlike();
    }

    /** Checks that what is outside a range is refused, and changes nothing. */
    Twin outside(int least, int greatest, Class<? extends Exception> refusal, IntFunction<Call> call) {
        fails(refusal, call.apply(least - 1)).fails(refusal, call.apply(least - 2));
        fails(refusal, call.apply(greatest + 1)).fails(refusal, call.apply(greatest + 2));
        for (int number : FAR) {
            fails(refusal, call.apply(number));
        }
        return this;
    }

    /** Checks that just these kinds are taken. */
    static void kinds(String kinds, Supplier<Twin> world, Object want, IntFunction<Call> call) {
        Twin refused = world.get();
        for (char kind = 0; kind < 256; kind++) {
            if (kinds.indexOf(kind) >= 0) {
                world.get().is(want, call.apply(kind));
            } else {
                refused.fails(ARGUMENT, call.apply(kind));
            }
        }
        for (char kind : kinds.toCharArray()) {
            // The same lower half, another upper half.
            refused.fails(ARGUMENT, call.apply(kind + 256)).fails(ARGUMENT, call.apply(kind + 0xff00));
        }
        refused.fails(ARGUMENT, call.apply(Character.MAX_VALUE)).goesOnAlike();
    }

    /** Lets both programs answer a call. */
    Twin does(Call call) {
        String want = answer(spared, call);
        Checks.check(!want.startsWith("throws"), "an answer", want);
        return is(want, answer(tried, call));
    }

    Twin is(Object want, Call call) {
        return is(String.valueOf(want), answer(spared, call)).is(String.valueOf(want), answer(tried, call));
    }

    Twin fails(Class<? extends Exception> want, Call call) {
        is("throws " + want.getSimpleName(), answer(tried, call));
        return alike();
    }

    /** Checks that nothing tells the two programs from each other. */
    Twin alike() {
        if (sparedLooks.isEmpty()) {
            sparedLooks = Looks.of(spared);
        }
        String got = Looks.of(tried);
        boolean isSame = sparedLooks.equals(got);
        Checks.check(isSame, "no change", isSame ? "" : Looks.difference(sparedLooks, got));
        return this;
    }

    /** Makes a call that may be refused, by both programs for the same reason. */
    Twin tries(Call call) {
        return is(answer(spared, call), answer(tried, call));
    }

    /** Publishes, fills, decides and lets days pass, so that what can't be looked at, such as a draft, shows. */
    Twin goesOnAlike() {
        for (int i = 0; i < 3; i++) {
            int form = i;
            tries(r -> r.publish(form)).tries(r -> r.addVersion(form)).tries(r -> r.setKeeping(form, 7, -1, 0, 0));
            for (int j = 0; j < 5; j++) {
                int person = j;
                tries(r -> r.start(person, form));
            }
        }
        alike();
        for (int times = 0; times < 2; times++) {
            for (int i = 0; i < 24; i++) {
                fillAndSubmit(i);
            }
            alike();
            decideAll();
            alike();
        }
        for (int i = 0; i < 6; i++) {
            int number = i;
            tries(r -> r.setSubstitute(number, -1)).tries(r -> r.hold(number, false));
        }
        for (int days = 1; days < 60; days += 9) {
            int passed = days;
            tries(r -> r.pass(passed));
        }
        return alike();
    }

    private void fillAndSubmit(int submission) {
        int[] answers = {0, 1, 20, 99, 999, -999, 5, 50};
        for (int i = 0; i < 8; i++) {
            int question = i;
            int answer = answers[(submission + i) % answers.length];
            tries(r -> r.answer(submission, question, answer)).tries(r -> r.answer(submission, question, 0));
            tries(r -> r.answer(submission, question, 5));
        }
        tries(r -> r.submit(submission));
    }

    private void decideAll() {
        for (int i = 0; i < 24; i++) {
            int submission = i;
            tries(r -> r.sendBack(submission, submission % 6, 3)).tries(r -> r.takeBack(submission, 0));
            tries(r -> r.takeBack(submission, 1));
            for (int j = 0; j < 6; j++) {
                int desk = j;
                tries(r -> r.approve(submission, desk));
            }
        }
    }

    private Twin is(String want, String got) {
        Checks.check(want.equals(got), want, got);
        return this;
    }

    private String answer(FormRiver r, Call call) {
        if (r == spared) {
            sparedLooks = "";
        }
        try {
            return String.valueOf(call.on(r));
        } catch (RuntimeException e) {
            boolean isTheProgram = Checks.isThrownByProgram(e);
            return "throws " + e.getClass().getSimpleName() + (isTheProgram ? "" : " by the machine");
        }
    }
}

/** All promises: the same runs of calls on the program and on PlainRiver, with the same answers and exceptions. */
public final class RandomRunsTest {
    private static final int RUNS = 120;
    private static final int STEPS = 240;

    /** The methods that change something, the often called ones with more weight. */
    private static final String[] CHANGES = ("addForm addVersion addQuestion addQuestion addComputed setCondition"
            + " setMap setMap addLeg setKeeping publish publish setSubstitute start start amend amend answer answer"
            + " answer answer answer answer answer answer takeBack prefill submit submit submit submit approve approve"
            + " approve sendBack sendBack reject withdraw hold pass").split(" ");

    private long seed;
    private Pair pair;
    private PlainRiver plain;

    /** Takes the first run and the number of runs, if others than in .ci/run are wanted. */
    public static void main(String[] args) {
        int first = args.length > 0 ? Integer.parseInt(args[0]) : 0;
        new RandomRunsTest().run(first, args.length > 1 ? Integer.parseInt(args[1]) : RUNS);
        Checks.end();
    }

    private void run(int first, int runs) {
        for (int run = first; run < first + runs; run++) {
            seed = run * 7919L + 1;
            pair = new Pair();
            plain = pair.plain;
            if (!buildFirst() || !callAndLook()) {
                System.out.println("run " + run + ":\n" + pair.told());
                return;
            }
        }
        System.out.println("answers: " + Pair.ANSWERED);
        // Each method has to have answered, or the runs would tell nothing of it.
        for (String name : Pair.names()) {
            Checks.check(Pair.ANSWERED.getOrDefault(name, 0) > 30, "answers of " + name, "" + Pair.ANSWERED.get(name));
        }
    }

    /** Most runs begin with a form that is published, so that they come to submissions. */
    private boolean buildFirst() {
        if (next(10) == 0) {
            return true;
        }
        boolean isSame = same("addForm") & addQuestions(0, 3 + next(4));
        for (int legs = next(6); legs > 0; legs--) {
            isSame &= same("addLeg", argumentsOf("addLeg"));
        }
        if (next(2) == 0) {
            isSame &= same("setKeeping", argumentsOf("setKeeping"));
        }
        return isSame & same("publish", 0);
    }

    private boolean addQuestions(int form, int questions) {
        boolean isSame = true;
        int firstMeaning = form * 5 + next(3);
        for (int question = 0; question < questions; question++) {
            int meaning = next(20) == 0 ? meaning() : firstMeaning + question;
            isSame &= question > 0 && next(4) == 0
                    ? same("addComputed", form, meaning, kind("+-*lg"), next(question), next(question))
                    : same("addQuestion", form, meaning, oneOf(-9, 0, 0), oneOf(9, 20, 99, 999), 1 + next(4));
            if (next(5) > 0) {
                isSame &= same("setMap", form, question, next(7), kind("==+*/"), oneOf(-2, -1, 1, 2, 3));
            }
            if (question > 0 && next(3) == 0) {
                isSame &= same("setCondition", form, question, next(question), kind("><="), oneOf(0, 3, 5, 9));
            }
        }
        return isSame;
    }

    private boolean callAndLook() {
        for (int step = 0; step < STEPS; step++) {
            if (!step() || step % 40 == 0 && !pair.lookAtAll()) {
                return false;
            }
        }
        return pair.lookAtAll();
    }

    private boolean step() {
        int kind = next(12);
        if (kind == 0) {
            return fill(submissionIn("dr"));
        }
        if (kind == 4) {
            return same("start", argumentsOf("start")) && (next(3) > 0 || same("prefill", submissionIn("d")))
                    && fill(submissionIn("d"));
        }
        if (kind == 1) {
            return addMappedVersion(form());
        }
        if (kind == 2) {
            return decide(submissionIn("s"));
        }
        if (kind == 3) {
            return revise(submissionIn("r"));
        }
        String name = CHANGES[next(CHANGES.length)];
        return same(name, argumentsOf(name));
    }

    /** Gives answers to most questions of a submission, and submits it. */
    private boolean fill(int submission) {
        boolean isSame = true;
        for (int question = 0; question < 8; question++) {
            for (int tries = next(12); tries > 0; tries--) {
                if (has(submission, question)) {
                    break;
                }
                isSame &= same("answer", submission, question, oneOf(0, 2, 3, 4, 5, 7, 9, 19, -4, -999));
            }
        }
        return isSame & same("submit", submission);
    }

    private boolean decide(int submission) {
        int desk = deskOf(submission);
        return next(3) > 0 ? same("approve", submission, desk)
                : same("sendBack", submission, desk, oneOf(1, 2, 3, 4, 5));
    }

    private boolean revise(int submission) {
        boolean isSame = true;
        for (int question = 0; question < 4; question++) {
            if (next(2) == 0) {
                isSame &= same("takeBack", submission, question)
                        & same("answer", submission, question, oneOf(0, 2, 3, 4, 5, 7, 9));
            }
        }
        return isSame & same("submit", submission);
    }

    private boolean has(int submission, int question) {
        try {
            return plain.answers(submission, question) > 0 && next(4) > 0;
        } catch (IndexOutOfBoundsException e) {
            return true;
        }
    }

    private boolean addMappedVersion(int form) {
        if (next(6) != 0) {
            return true;
        }
        boolean isSame = same("addVersion", form) & addQuestions(form, 4 + next(4));
        for (int legs = next(4); legs > 0; legs--) {
            isSame &= same("addLeg", argumentsOf("addLeg"));
        }
        return isSame & same("publish", form);
    }

    /** Picks a submission in one of these states, if one of some picks is. */
    private int submissionIn(String states) {
        for (int tries = 0; tries < 20; tries++) {
            int submission = submission();
            try {
                if (states.indexOf(plain.state(submission)) >= 0) {
                    return submission;
                }
            } catch (IndexOutOfBoundsException e) {
                continue;
            }
        }
        return submission();
    }

    /** Picks a desk at which a leg of a submission waits, if one does. */
    private int deskOf(int submission) {
        for (int tries = 0; tries < 20; tries++) {
            int desk = next(6);
            try {
                if (plain.waits(submission, desk)) {
                    return desk;
                }
            } catch (IndexOutOfBoundsException e) {
                return desk();
            }
        }
        return desk();
    }

    private boolean same(String name, Object... arguments) {
        return pair.same(name, arguments);
    }

    private Object[] argumentsOf(String name) {
        switch (name) {
            case "addQuestion": {
                int least = oneOf(-20, -5, 0, 0, 0, -999, 3);
                return with(form(), meaning(), least, least + oneOf(0, 5, 9, 20, 50, 99, 900, -1), oneOf(1, 1, 2, 3, 4, 5));
            }
            case "addComputed":
                return with(form(), meaning(), kind("+-*lg?"), question(), question());
            case "setCondition":
                return with(form(), question(), oneOf(0, 0, 1, 2, 3, question()), kind("><=>?"), bound());
            case "setMap":
                return with(form(), question(), question(), kind("=+*/==?"), oneOf(-3, -2, -1, 0, 1, 2, 3, 5, 99, 100));
            case "addLeg":
                return with(form(), oneOf(0, 0, 1, 1, 2, 2, 3), desk(), oneOf(-1, next(4), question()),
                        oneOf(0, 0, 3, 5, 9, 20, -9999, bound()), oneOf(0, 0, 0, 0, 1, 2, 3, 9, 60, 61));
            case "setKeeping":
                return with(form(), oneOf(1, 2, 5, 10, 20, 40, 400, 401), oneOf(-1, question()), bound(),
                        oneOf(0, 3, 10, 400, 401));
            case "setSubstitute":
                return with(desk(), oneOf(-1, desk(), desk()));
            case "start":
                return with(person(), form());
            case "answer":
                return with(submission(), question(), oneOf(0, 1, 2, 3, 4, 5, 6, 7, 8, 9, -1, -4, 12, 19, 40, 99, 500));
            case "takeBack":
                return with(oneOf(submission(), submissionIn("r")), question());
            case "approve", "reject": {
                int submission = oneOf(submission(), submissionIn("s"));
                return with(submission, oneOf(desk(), deskOf(submission), deskOf(submission)));
            }
            case "sendBack": {
                int submission = oneOf(submission(), submissionIn("s"));
                return with(submission, oneOf(desk(), deskOf(submission), deskOf(submission)),
                        oneOf(1, 2, 4, 8, 3, 5, 9, next(32), next(512), 1 << next(32), 0));
            }
            case "submit":
                return with(oneOf(submission(), submissionIn("dr")));
            case "amend":
                return with(oneOf(submission(), submissionIn("a")));
            case "prefill":
                return with(oneOf(submission(), submissionIn("d")));
            case "withdraw":
                return with(submission());
            case "hold":
                return new Object[] {person(), next(3) == 0};
            case "pass":
                return with(oneOf(1, 1, 1, 1, 1, 2, 2, 3, 5, next(62)));
            case "addVersion", "publish":
                return with(form());
            default:
                return with();
        }
    }

    private static Object[] with(Object... arguments) {
        return arguments;
    }

    private int next(int bound) {
        seed = seed * 6364136223846793005L + 1442695040888963407L;
        return (int) ((seed >>> 33) % bound);
    }

    private int oneOf(int... numbers) {
        return numbers[next(numbers.length)];
    }

    private char kind(String kinds) {
        return kinds.charAt(next(kinds.length()));
    }

    private int form() {
        return oneOf(0, 0, 0, 0, 0, 0, 0, 0, 1, 1, 2, next(5) - 1);
    }

    private int meaning() {
        return next(40) == 0 ? next(20) - 2 : next(16);
    }

    private int question() {
        return next(30) == 0 ? next(12) - 2 : next(6);
    }

    private int bound() {
        return oneOf(-20, 0, 0, 1, 2, 3, 4, 5, 6, 8, 10, 20, 50, next(20001) - 10000, 10000, -9999);
    }

    private int desk() {
        return next(40) == 0 ? next(9) - 2 : oneOf(0, 0, 1, 1, 2, 3, 4, 5);
    }

    private int person() {
        return next(40) == 0 ? next(9) - 2 : oneOf(0, 0, 0, 1, 1, 2, 3, 4, 5);
    }

    /** Picks rather the submissions that were made last. */
    private int submission() {
        int made = 0;
        while (made < 24 && isMade(made)) {
            made++;
        }
        return next(60) == 0 || made == 0 ? next(30) - 2 : oneOf(next(made), made - 1 - next(Math.min(made, 4)));
    }

    private boolean isMade(int submission) {
        try {
            return plain.state(submission) != 0;
        } catch (IndexOutOfBoundsException e) {
            return false;
        }
    }
}

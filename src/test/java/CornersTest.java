import java.util.ArrayList;
import java.util.List;

/**
 * All promises: each method with each combination of numbers at the bounds of its parameters, in several objects, on
 * the program and on PlainRiver. So each exception is seen together with each other one, and the first one is due.
 */
public final class CornersTest {
    private static final int MIN = Integer.MIN_VALUE;
    private static final int MAX = Integer.MAX_VALUE;

    private static final Object[] FORMS = {MIN, -1, 0, 1, 2, 3, MAX};
    private static final Object[] MEANINGS = {-1, 0, 1, 9, 15, 16};
    private static final Object[] QUESTIONS = {-1, 0, 1, 2, 3, 7, 8};
    private static final Object[] QUESTIONS_OR_NONE = {-2, -1, 0, 2, 3, 8};
    private static final Object[] ANSWERS = {-1000, -999, 999, 0, 1000};
    private static final Object[] BOUNDS = {-10000, -9999, 0, 9999, 10000};
    private static final Object[] DESKS = {MIN, -1, 0, 1, 2, 3, 5, 6, MAX};
    private static final Object[] PEOPLE = {-1, 0, 1, 5, 6};
    private static final Object[] SUBMISSIONS = {MIN, -1, 0, 1, 2, 3, 4, 5, 6, 7, 8, 23, 24, MAX};

    private final int world;
    private int changes;

    public static void main(String[] args) {
        for (int world = 0; world < 7; world++) {
            for (String name : Pair.names()) {
                new CornersTest(world).tryAll(name, valuesOf(name));
            }
        }
        System.out.println("answers: " + Pair.ANSWERED);
        for (String name : Pair.names()) {
            Checks.check(Pair.ANSWERED.getOrDefault(name, 0) > 0, "answers of " + name, "none");
        }
        Checks.end();
    }

    private CornersTest(int world) {
        this.world = world;
    }

    /** The values that are tried for each parameter of a method. */
    private static Object[][] valuesOf(String name) {
        switch (name) {
            case "addVersion", "publish", "present":
                return new Object[][] {FORMS};
            case "addQuestion":
                return new Object[][] {FORMS, MEANINGS, ANSWERS, ANSWERS, {0, 1, 4, 5}};
            case "addComputed":
                return new Object[][] {FORMS, MEANINGS, {'+', '-', '*', 'l', 'g', '?'}, QUESTIONS, QUESTIONS};
            case "setCondition":
                return new Object[][] {FORMS, QUESTIONS, QUESTIONS, {'>', '<', '=', '?'}, BOUNDS};
            case "setMap":
                return new Object[][] {FORMS, QUESTIONS, QUESTIONS, {'=', '+', '*', '/', '-'}, {-100, -99, -1, 0, 1, 99, 100}};
            case "addLeg":
                return new Object[][] {FORMS, {-1, 0, 1, 2, 3}, {-1, 0, 1, 5, 6}, QUESTIONS_OR_NONE, BOUNDS, {-1, 0, 60, 61}};
            case "setKeeping":
                return new Object[][] {FORMS, {0, 1, 400, 401}, QUESTIONS_OR_NONE, BOUNDS, {-1, 0, 400, 401}};
            case "owner", "total", "totalAnew", "counted", "meanValue":
                return new Object[][] {{MIN, -1, 0, 1, 2, 7, 8, 15, 16, MAX}};
            case "setSubstitute":
                return new Object[][] {DESKS, DESKS};
            case "start":
                return new Object[][] {PEOPLE, FORMS};
            case "answer":
                return new Object[][] {SUBMISSIONS, QUESTIONS, {-1000, -1, 0, 5, 9, 10, 99, 100, MAX}};
            case "sendBack":
                return new Object[][] {SUBMISSIONS, DESKS, {MIN, -1, 0, 1, 2, 3, 4, 5, 7, 8, 15, 255, 256, 257, MAX}};
            case "approve", "reject", "waits":
                return new Object[][] {SUBMISSIONS, DESKS};
            case "waitingAt":
                return new Object[][] {DESKS, {MIN, -1, 0, 1, 2, 3, 23, 24, MAX}};
            case "record", "recordAnew", "source":
                return new Object[][] {PEOPLE, MEANINGS};
            case "hold":
                return new Object[][] {PEOPLE, {true, false}};
            case "isSound":
                return new Object[][] {PEOPLE};
            case "pass":
                return new Object[][] {{MIN, -1, 0, 1, 9, 10, 11, 59, 60, 61, MAX}};
            case "addForm", "day", "acceptedShare":
                return new Object[][] {};
            default:
                return Pair.parametersOf(name).length == 1 ? new Object[][] {SUBMISSIONS} : new Object[][] {SUBMISSIONS, QUESTIONS};
        }
    }

    /** Makes all calls, each one that changes something in a pair of its own, all refused ones in one that is looked at. */
    private void tryAll(String name, Object[][] values) {
        List<Object[]> calls = new ArrayList<>();
        combine(values, new Object[values.length], 0, calls);
        Pair steady = build();
        Pair fresh = build();
        for (Object[] arguments : calls) {
            if (fresh.refuses(name, arguments) || Pair.isLook(name)) {
                steady.same(name, arguments);
            } else {
                changes++;
                if (changes % 40 == 1) {
                    fresh.lookAtAll();
                    goOn(fresh);
                }
                fresh = build();
            }
        }
        steady.lookAtAll();
        goOn(steady);
    }

    private static void combine(Object[][] values, Object[] chosen, int parameter, List<Object[]> calls) {
        if (parameter == values.length) {
            calls.add(chosen.clone());
            return;
        }
        for (Object value : values[parameter]) {
            chosen[parameter] = value;
            combine(values, chosen, parameter + 1, calls);
        }
    }

    /** Shows what can't be looked at, such as drafts. */
    private static void goOn(Pair p) {
        for (int form = 0; form < 3; form++) {
            p.same("setKeeping", form, 9, -1, 0, 0);
            p.same("publish", form);
            p.same("addVersion", form);
            p.same("start", form, form);
        }
        for (int submission = 0; submission < 24; submission++) {
            for (int question = 0; question < 8; question++) {
                p.same("answer", submission, question, 9 - submission % 6);
                p.same("answer", submission, question, 0);
            }
            p.same("submit", submission);
            for (int desk = 0; desk < 6; desk += 2) {
                p.same("approve", submission, desk);
            }
        }
        for (int number = 0; number < 6; number++) {
            p.same("setSubstitute", number, -1);
            p.same("hold", number, number % 2 == 0);
        }
        p.same("pass", 9);
        p.lookAtAll();
    }

    private Pair build() {
        Pair p = new Pair();
        switch (world) {
            case 1 -> drafts(p);
            case 2 -> versions(p);
            case 3 -> submissionsInAllStates(p);
            case 4 -> fullAndLate(p);
            case 5 -> rowsOfDesks(p);
            case 6 -> mappedSubmissions(p);
            default -> { }
        }
        return p;
    }

    private static void questions(Pair p, int form, int first, int questions) {
        for (int question = 0; question < questions; question++) {
            if (question == 2) {
                p.same("addComputed", form, first + question, '+', 0, 1);
            } else {
                p.same("addQuestion", form, first + question, 0, 99, 2);
            }
        }
    }

    /** A draft behind a published version, an empty draft, and a full one. */
    private static void drafts(Pair p) {
        p.same("addForm");
        questions(p, 0, 0, 4);
        p.same("publish", 0);
        p.same("addVersion", 0);
        questions(p, 0, 0, 3);
        p.same("setMap", 0, 0, 3, '*', 2);
        p.same("addLeg", 0, 1, 1, 2, 50, 3);
        p.same("addForm");
        p.same("addForm");
        questions(p, 2, 8, 8);
        for (int leg = 0; leg < 6; leg++) {
            p.same("addLeg", 2, leg % 3, leg, -1, 0, 0);
        }
    }

    /** Four published versions, three with a fourth one as a draft, and a published one without a draft. */
    private static void versions(Pair p) {
        for (int form = 0; form < 3; form++) {
            p.same("addForm");
            for (int version = 0; version < 4 - 3 * (form / 2); version++) {
                if (version > 0) {
                    p.same("addVersion", form);
                }
                questions(p, form, 5 * form, 1 + version);
                if (form != 1 || version < 3) {
                    p.same("publish", form);
                }
            }
        }
    }

    private static void fill(Pair p, int submission, int... answers) {
        for (int question = 0; question < answers.length; question++) {
            p.same("answer", submission, question, answers[question]);
        }
    }

    /** Submissions 0 'd', 1 's', 2 'r', 3 'x', 4 'a' and amended, 5 'o', 6 'a', 7 'g', and the amending one, 8 'd'. */
    private static void submissionsInAllStates(Pair p) {
        p.same("addForm");
        questions(p, 0, 0, 4);
        p.same("setCondition", 0, 3, 0, '>', 50);
        p.same("addLeg", 0, 0, 2, -1, 0, 0);
        p.same("addLeg", 0, 0, 3, 3, 5, 9);
        p.same("setKeeping", 0, 5, -1, 0, 0);
        p.same("publish", 0);
        for (int submission = 0; submission < 8; submission++) {
            if (submission != 6) {
                p.same("start", submission == 7 ? 1 : submission % 6, 0);
            } else {
                p.same("approve", 5, 2);
                p.same("amend", 5);
            }
            fill(p, submission, 50 - submission % 2, 9);
            p.same("answer", submission, 3, 7);
            if (submission > 0) {
                p.same("submit", submission);
            }
            p.same("approve", submission, submission == 2 ? 3 : 5);
        }
        p.same("sendBack", 2, 2, 9);
        p.same("reject", 3, 2);
        p.same("approve", 6, 2);
        p.same("approve", 6, 3);
        p.same("approve", 7, 2);
        p.same("hold", 5, true);
        p.same("pass", 5);
        p.same("approve", 4, 2);
        p.same("approve", 4, 3);
        p.same("hold", 5, false);
        p.same("amend", 4);
        p.same("takeBack", 8, 0);
    }

    /** Twenty-four submissions, ten days before the last one. */
    private static void fullAndLate(Pair p) {
        for (int days = 0; days < 1980; days += 60) {
            p.same("pass", 60);
        }
        p.same("pass", 10);
        p.same("addForm");
        p.same("addForm");
        questions(p, 0, 0, 3);
        p.same("addLeg", 0, 0, 1, 0, 50, 10);
        p.same("setKeeping", 0, 9, -1, 0, 0);
        p.same("publish", 0);
        for (int submission = 0; submission < 24; submission++) {
            p.same("start", submission % 6, 0);
            fill(p, submission, 40 + submission, 9);
            if (submission % 4 > 0) {
                p.same("submit", submission);
            }
        }
    }

    /** Rows of substitutes, with legs that wait at their ends. */
    private static void rowsOfDesks(Pair p) {
        p.same("addForm");
        questions(p, 0, 0, 2);
        for (int desk = 0; desk < 6; desk++) {
            p.same("addLeg", 0, desk / 3, desk, -1, 0, 0);
        }
        p.same("publish", 0);
        for (int submission = 0; submission < 4; submission++) {
            p.same("start", submission, 0);
            fill(p, submission, submission, submission);
            p.same("submit", submission);
            p.same("setSubstitute", submission, submission + 1);
        }
        p.same("setSubstitute", 2, -1);
        p.same("approve", 0, 0);
        p.same("approve", 0, 1);
        p.same("approve", 0, 2);
    }

    /** Submissions of all four versions, carried to the last one. */
    private static void mappedSubmissions(Pair p) {
        p.same("addForm");
        for (int version = 0; version < 4; version++) {
            if (version > 0) {
                p.same("addVersion", 0);
            }
            questions(p, 0, version % 2, 4);
            p.same("setMap", 0, 0, 2, '/', 2);
            p.same("setMap", 0, 1, 0, '+', version);
            p.same("setCondition", 0, 3, 0, '<', 9);
            p.same("publish", 0);
            for (int person = 0; person < 2; person++) {
                int submission = 2 * version + person;
                p.same("start", person, 0);
                fill(p, submission, 3 * submission, 5 + person);
                p.same("answer", submission, 3, 1);
                p.same(submission == 3 ? "withdraw" : "submit", submission);
            }
        }
    }
}

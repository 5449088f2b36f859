import java.util.ArrayList;
import java.util.NoSuchElementException;

/**
 * A form builder with its submissions, its routes and its record store.
 *
 * <p>A sheet holds the answers to one version and what follows from them. Each submission has a sheet of its own
 * version; a form has one more for each published version, into which answers are carried and which is used again
 * for every submission, so that looking makes no new objects.
 */
public final class FormRiver {
    private static final int MOST_FORMS = 3;
    private static final int MOST_VERSIONS = 4;
    private static final int MOST_QUESTIONS = 8;
    private static final int MOST_ANSWERS = 4;
    private static final int MOST_LEGS = 6;
    private static final int MOST_SUBMISSIONS = 24;
    private static final int MEANINGS = 16;
    private static final int STAGES = 3;
    private static final int DESKS = 6;
    private static final int PEOPLE = 6;

    private static final int GREATEST_ANSWER = 999;
    private static final int GREATEST_VALUE = 9999;
    private static final int GREATEST_NUMBER = 99;
    private static final int GREATEST_PATIENCE = 60;
    private static final int GREATEST_KEEPING = 400;
    private static final int FIRST_KEEPING = 100;
    private static final int GREATEST_STEP = 60;
    private static final int LAST_DAY = 2000;

    private static final int NONE = -1;
    private static final int EVERY_QUESTION = -1;

    private static final char PLAIN = ' ';

    private static final char DRAFTED = 'd';
    private static final char AT_DESKS = 's';
    private static final char SENT_BACK = 'r';
    private static final char ACCEPTED = 'a';
    private static final char ENDED = 'x';
    private static final char REPLACED = 'o';
    private static final char GONE = 'g';

    private final ArrayList<Form> forms;
    private final ArrayList<Submission> submissions;
    private final Desks desks;
    private final Records records;
    private final int[] owners;
    private final boolean[] heldPeople;
    private int today;
    private int acceptances;

    public FormRiver() {
        forms = new ArrayList<>();
        submissions = new ArrayList<>();
        desks = new Desks();
        records = new Records();
        owners = new int[MEANINGS];
        for (int meaning = 0; meaning < MEANINGS; meaning++) {
            owners[meaning] = NONE;
        }
        heldPeople = new boolean[PEOPLE];
        today = 0;
        acceptances = 0;
    }

    // ---- forms ----

    public int addForm() throws IllegalStateException {
        if (forms.size() >= MOST_FORMS) {
            throw new IllegalStateException("there are 3 forms");
        }
        forms.add(new Form(forms.size()));
        return forms.size() - 1;
    }

    public int addVersion(int form) throws IndexOutOfBoundsException, IllegalStateException {
        Form changed = formAt(form);
        if (changed.hasDraft() || changed.versions.size() >= MOST_VERSIONS) {
            throw new IllegalStateException("the form has a draft, or 4 versions");
        }
        changed.versions.add(new Version(changed.versions.size()));
        return changed.versions.size() - 1;
    }

    public int addQuestion(int form, int meaning, int least, int greatest, int most)
            throws IndexOutOfBoundsException, IllegalArgumentException, IllegalStateException {
        Form changed = formAt(form);
        if (isOutside(meaning, 0, MEANINGS - 1) || isOutside(least, -GREATEST_ANSWER, GREATEST_ANSWER)
                || isOutside(greatest, least, GREATEST_ANSWER) || isOutside(most, 1, MOST_ANSWERS)) {
            throw new IllegalArgumentException("a number is out of range");
        }
        Version draft = draftWithPlace(changed);
        draft.questions.add(new Question(meaning, PLAIN, least, greatest, most, NONE, NONE));
        return draft.questions.size() - 1;
    }

    public int addComputed(int form, int meaning, char kind, int first, int second)
            throws IndexOutOfBoundsException, IllegalArgumentException, IllegalStateException,
            NoSuchElementException {
        Form changed = formAt(form);
        if (isOutside(meaning, 0, MEANINGS - 1) || !isComputedKind(kind)) {
            throw new IllegalArgumentException("the meaning is out of range, or there is no such kind");
        }
        Version draft = draftWithPlace(changed);
        if (!draft.hasQuestion(first) || !draft.hasQuestion(second)) {
            throw new NoSuchElementException("the draft has no such question");
        }
        draft.questions.add(new Question(meaning, kind, 0, 0, 0, first, second));
        return draft.questions.size() - 1;
    }

    public int setCondition(int form, int question, int other, char kind, int bound)
            throws IndexOutOfBoundsException, IllegalArgumentException, IllegalStateException,
            NoSuchElementException, UnsupportedOperationException {
        Form changed = formAt(form);
        boolean isKind = kind == '>' || kind == '<' || kind == '=';
        if (!isKind || isOutside(bound, -GREATEST_VALUE, GREATEST_VALUE)) {
            throw new IllegalArgumentException("there is no such kind, or the bound is out of range");
        }
        Version draft = draftOf(changed);
        if (!draft.hasQuestion(question) || !draft.hasQuestion(other)) {
            throw new NoSuchElementException("the draft has no such question");
        }
        Question conditioned = draft.questions.get(question);
        if (conditioned.isComputed() || other >= question) {
            throw new UnsupportedOperationException("the question is computed, or the other one is not earlier");
        }
        conditioned.conditionOn = other;
        conditioned.conditionKind = kind;
        conditioned.conditionBound = bound;
        return draft.conditions();
    }

    public int setMap(int form, int question, int from, char kind, int number)
            throws IndexOutOfBoundsException, IllegalArgumentException, IllegalStateException,
            NoSuchElementException, UnsupportedOperationException {
        Form changed = formAt(form);
        boolean isKind = kind == '=' || kind == '+' || kind == '*' || kind == '/' && number != 0;
        if (!isKind || isOutside(number, -GREATEST_NUMBER, GREATEST_NUMBER)) {
            throw new IllegalArgumentException("there is no such kind, or the number is out of range");
        }
        Version draft = draftOf(changed);
        int before = draft.number - 1;
        if (isOutside(before, 0, changed.versions.size() - 1)) {
            throw new IllegalStateException("there is no version before the version 0");
        }
        if (!draft.hasQuestion(question) || !changed.versions.get(before).hasQuestion(from)) {
            throw new NoSuchElementException("the draft, or the version before, has no such question");
        }
        Question mapped = draft.questions.get(question);
        if (mapped.isComputed()) {
            throw new UnsupportedOperationException("the question is computed");
        }
        mapped.mapFrom = from;
        mapped.mapKind = kind;
        mapped.mapNumber = number;
        return draft.maps();
    }

    public int addLeg(int form, int stage, int desk, int question, int bound, int patience)
            throws IndexOutOfBoundsException, IllegalArgumentException, IllegalStateException,
            NoSuchElementException {
        Form changed = formAt(form);
        if (isOutside(stage, 0, STAGES - 1) || isOutside(desk, 0, DESKS - 1)
                || isOutside(bound, -GREATEST_VALUE, GREATEST_VALUE)
                || isOutside(patience, 0, GREATEST_PATIENCE)) {
            throw new IllegalArgumentException("the stage, the desk, the bound or the patience is out of range");
        }
        Version draft = draftOf(changed);
        if (draft.legs.size() >= MOST_LEGS || draft.hasLeg(stage, desk)) {
            throw new IllegalStateException("the draft has 6 legs, or one with this stage and this desk");
        }
        needQuestionOrNone(draft, question);
        draft.legs.add(new Leg(stage, desk, question, bound, patience));
        return draft.legs.size();
    }

    public int setKeeping(int form, int days, int question, int bound, int longer)
            throws IndexOutOfBoundsException, IllegalArgumentException, IllegalStateException,
            NoSuchElementException {
        Form changed = formAt(form);
        if (isOutside(days, 1, GREATEST_KEEPING) || isOutside(bound, -GREATEST_VALUE, GREATEST_VALUE)
                || isOutside(longer, 0, GREATEST_KEEPING)) {
            throw new IllegalArgumentException("the bound or a number of days is out of range");
        }
        Version draft = draftOf(changed);
        needQuestionOrNone(draft, question);
        int daysBefore = draft.keepingDays;
        draft.keepingDays = days;
        draft.keepingQuestion = question;
        draft.keepingBound = bound;
        draft.keepingLonger = longer;
        return daysBefore;
    }

    public int publish(int form)
            throws IndexOutOfBoundsException, IllegalStateException, UnsupportedOperationException {
        Form changed = formAt(form);
        Version draft = draftOf(changed);
        if (draft.questions.isEmpty()) {
            throw new IllegalStateException("the draft has no questions");
        }
        if (draft.hasMeaningTwice() || hasForeignMeaning(draft, form)) {
            throw new UnsupportedOperationException("a meaning is there twice, or another form owns it");
        }
        records.remember();
        changed.publishDraft();
        ownMeanings(draft, form);
        for (int i = 0; i < submissions.size(); i++) {
            Submission kept = submissions.get(i);
            if (kept.form.number == form && kept.status == ACCEPTED) {
                records.update(kept, submissions);
            }
        }
        return records.changes();
    }

    public int present(int form) throws IndexOutOfBoundsException, NoSuchElementException {
        Form asked = formAt(form);
        needPublished(asked);
        return asked.presentNumber();
    }

    public int owner(int meaning) throws IllegalArgumentException, NoSuchElementException {
        needMeaning(meaning);
        if (owners[meaning] == NONE) {
            throw new NoSuchElementException("no form owns the meaning");
        }
        return owners[meaning];
    }

    public int setSubstitute(int desk, int other)
            throws IndexOutOfBoundsException, IllegalArgumentException, UnsupportedOperationException {
        if (isOutside(desk, 0, DESKS - 1) || isOutside(other, NONE, DESKS - 1)) {
            throw new IndexOutOfBoundsException("no such desk");
        }
        if (desk == other) {
            throw new IllegalArgumentException("a desk is not its own substitute");
        }
        if (desks.leadsTo(other, desk)) {
            throw new UnsupportedOperationException("the row of substitutes would come back to the desk");
        }
        int before = desks.substitutes[desk];
        desks.substitutes[desk] = other;
        return before;
    }

    // ---- filling submissions ----

    public int start(int person, int form)
            throws IndexOutOfBoundsException, IllegalStateException, NoSuchElementException {
        needPerson(person);
        Form started = formAt(form);
        if (submissions.size() >= MOST_SUBMISSIONS) {
            throw new IllegalStateException("there are 24 submissions");
        }
        needPublished(started);
        submissions.add(new Submission(submissions.size(), person, started, NONE));
        return submissions.size() - 1;
    }

    public int amend(int submission) throws IndexOutOfBoundsException, IllegalStateException {
        Submission amended = submissionAt(submission);
        if (amended.status != ACCEPTED || isBeingAmended(submission) || submissions.size() >= MOST_SUBMISSIONS) {
            throw new IllegalStateException("the submission can't be amended");
        }
        Submission amending = new Submission(submissions.size(), amended.person, amended.form, submission);
        amending.sheet.copyAnswers(amended.form.carry(amended.sheet));
        submissions.add(amending);
        return amending.number;
    }

    public int answer(int submission, int question, int answer)
            throws IndexOutOfBoundsException, IllegalStateException, UnsupportedOperationException,
            IllegalArgumentException {
        Submission filled = submissionAt(submission);
        Slot slot = slotAt(filled.sheet, question);
        needFilling(filled);
        if (slot.question.isComputed() || !slot.isOpen || !filled.canChange(question)) {
            throw new UnsupportedOperationException("the question is computed, not asked, or can't be changed");
        }
        if (!slot.question.allows(answer) || slot.count >= slot.question.most) {
            throw new IllegalArgumentException("the answer is out of range, or one too many");
        }
        slot.put(answer);
        filled.sheet.settle();
        return slot.count;
    }

    public int takeBack(int submission, int question)
            throws IndexOutOfBoundsException, IllegalStateException, UnsupportedOperationException,
            NoSuchElementException {
        Submission filled = submissionAt(submission);
        Slot slot = slotAt(filled.sheet, question);
        needFilling(filled);
        if (slot.question.isComputed() || !filled.canChange(question)) {
            throw new UnsupportedOperationException("the question is computed, or can't be changed");
        }
        if (slot.count == 0) {
            throw new NoSuchElementException("the question has no answers");
        }
        slot.count--;
        filled.sheet.settle();
        return slot.given[slot.count];
    }

    public int prefill(int submission) throws IndexOutOfBoundsException, IllegalStateException {
        Submission filled = submissionAt(submission);
        if (filled.status != DRAFTED) {
            throw new IllegalStateException("the submission is not drafted");
        }
        int answered = 0;
        for (int i = 0; i < filled.sheet.slots.size(); i++) {
            Slot slot = filled.sheet.slots.get(i);
            int meaning = slot.question.meaning;
            if (!slot.isUnanswered() || !records.has(filled.person, meaning)) {
                continue;
            }
            int value = records.values[filled.person][meaning];
            if (slot.question.allows(value)) {
                slot.put(value);
                // A condition on this question may be fulfilled by now, when the turn of a later one comes.
                filled.sheet.settle();
                answered++;
            }
        }
        return answered;
    }

    // ---- deciding submissions ----

    public int submit(int submission)
            throws IndexOutOfBoundsException, IllegalStateException, UnsupportedOperationException {
        Submission submitted = submissionAt(submission);
        needFilling(submitted);
        if (!submitted.sheet.isComplete()) {
            throw new UnsupportedOperationException("a plain question that is asked has no answers");
        }
        moveOn(submitted, submitted.status == SENT_BACK ? submitted.stageNow : 0);
        return submitted.waitingLegs();
    }

    public int approve(int submission, int desk)
            throws IndexOutOfBoundsException, IllegalStateException, NoSuchElementException {
        Submission decided = submissionAt(submission);
        needDesk(desk);
        needWaiting(decided, desk);
        decided.approveAt(desk);
        if (decided.waitingLegs() == 0) {
            moveOn(decided, decided.stageNow + 1);
        }
        return decided.waitingLegs();
    }

    public int sendBack(int submission, int desk, int questions)
            throws IndexOutOfBoundsException, IllegalArgumentException, IllegalStateException,
            NoSuchElementException {
        Submission decided = submissionAt(submission);
        needDesk(desk);
        if (questions == 0 || (questions & ~decided.sheet.plainOnes()) != 0) {
            throw new IllegalArgumentException("these are no plain questions of the version");
        }
        needWaiting(decided, desk);
        int waited = decided.waitingLegs();
        decided.leaveDesks(SENT_BACK);
        decided.changeable = questions | decided.sheet.plainOnesWithoutAnswers();
        return waited;
    }

    public int reject(int submission, int desk)
            throws IndexOutOfBoundsException, IllegalStateException, NoSuchElementException {
        Submission decided = submissionAt(submission);
        needDesk(desk);
        needWaiting(decided, desk);
        decided.leaveDesks(ENDED);
        int waiting = 0;
        for (int i = 0; i < submissions.size(); i++) {
            if (submissions.get(i).isAtDesk(desk)) {
                waiting++;
            }
        }
        return waiting;
    }

    public char withdraw(int submission) throws IndexOutOfBoundsException, IllegalStateException {
        Submission ended = submissionAt(submission);
        if (!ended.isUnderWay()) {
            throw new IllegalStateException("the submission is neither drafted nor at desks nor sent back");
        }
        char before = ended.status;
        ended.leaveDesks(ENDED);
        return before;
    }

    // ---- looking at submissions ----

    public char state(int submission) throws IndexOutOfBoundsException {
        return submissionAt(submission).status;
    }

    public boolean isAsked(int submission, int question) throws IndexOutOfBoundsException {
        return slotAt(submissionAt(submission).sheet, question).isOpen;
    }

    public int value(int submission, int question) throws IndexOutOfBoundsException, NoSuchElementException {
        return valueOf(slotAt(submissionAt(submission).sheet, question));
    }

    public int answers(int submission, int question) throws IndexOutOfBoundsException {
        return slotAt(submissionAt(submission).sheet, question).count;
    }

    public int stage(int submission) throws IndexOutOfBoundsException, IllegalStateException {
        Submission asked = submissionAt(submission);
        if (asked.status != AT_DESKS && asked.status != SENT_BACK) {
            throw new IllegalStateException("the submission is neither at desks nor sent back");
        }
        return asked.stageNow;
    }

    public boolean waits(int submission, int desk) throws IndexOutOfBoundsException {
        Submission asked = submissionAt(submission);
        needDesk(desk);
        return asked.isAtDesk(desk);
    }

    public int waitingAt(int desk, int rank) throws IndexOutOfBoundsException, NoSuchElementException {
        needDesk(desk);
        for (int i = 0; i < submissions.size(); i++) {
            Submission waiting = submissions.get(i);
            if (waiting.isAtDesk(desk) && waitingAhead(waiting, desk) == rank) {
                return waiting.number;
            }
        }
        throw new NoSuchElementException("there is no such rank");
    }

    public int carried(int submission, int question) throws IndexOutOfBoundsException, NoSuchElementException {
        return valueOf(slotCarried(submission, question));
    }

    public char reason(int submission, int question) throws IndexOutOfBoundsException, IllegalStateException {
        return slotWithoutValue(submission, question).lack;
    }

    public char root(int submission, int question) throws IndexOutOfBoundsException, IllegalStateException {
        return slotWithoutValue(submission, question).rootLack;
    }

    public int rootVersion(int submission, int question)
            throws IndexOutOfBoundsException, IllegalStateException {
        return slotWithoutValue(submission, question).rootIn;
    }

    public int causes(int submission, int question) throws IndexOutOfBoundsException, IllegalStateException {
        return slotWithoutValue(submission, question).stepsToRoot;
    }

    // ---- records and totals ----

    public int record(int person, int meaning)
            throws IndexOutOfBoundsException, IllegalArgumentException, NoSuchElementException {
        needPerson(person);
        needMeaning(meaning);
        needRecord(person, meaning);
        return records.values[person][meaning];
    }

    public int recordAnew(int person, int meaning)
            throws IndexOutOfBoundsException, IllegalArgumentException, NoSuchElementException {
        needPerson(person);
        needMeaning(meaning);
        int found = sourceAnew(person, meaning);
        if (isOutside(found, 0, submissions.size() - 1)) {
            throw new NoSuchElementException("the record has no such value");
        }
        return valueAnew(submissions.get(found), meaning);
    }

    public int source(int person, int meaning)
            throws IndexOutOfBoundsException, IllegalArgumentException, NoSuchElementException {
        needPerson(person);
        needMeaning(meaning);
        needRecord(person, meaning);
        return records.sources[person][meaning];
    }

    public long total(int meaning) throws IllegalArgumentException {
        needMeaning(meaning);
        return records.totals[meaning];
    }

    public long totalAnew(int meaning) throws IllegalArgumentException {
        needMeaning(meaning);
        long sum = 0;
        for (int i = 0; i < submissions.size(); i++) {
            Submission summed = submissions.get(i);
            if (tellsAnew(summed, meaning)) {
                sum += valueAnew(summed, meaning);
            }
        }
        return sum;
    }

    public int counted(int meaning) throws IllegalArgumentException {
        needMeaning(meaning);
        return records.counts[meaning];
    }

    // ---- days ----

    public boolean hold(int person, boolean isHeld) throws IndexOutOfBoundsException {
        needPerson(person);
        boolean wasHeld = heldPeople[person];
        heldPeople[person] = isHeld;
        return wasHeld;
    }

    public int lastDay(int submission) throws IndexOutOfBoundsException, IllegalStateException {
        Submission asked = submissionAt(submission);
        if (asked.status != ACCEPTED) {
            throw new IllegalStateException("the submission is not accepted");
        }
        return asked.keptUntil;
    }

    public int pass(int days) throws IllegalArgumentException {
        if (isOutside(days, 1, GREATEST_STEP) || today + days > LAST_DAY) {
            throw new IllegalArgumentException("the number of days is out of range");
        }
        int gone = 0;
        for (int i = 0; i < days; i++) {
            today++;
            for (int j = 0; j < submissions.size(); j++) {
                Submission waiting = submissions.get(j);
                waiting.approveOverdue(today);
                if (waiting.status == AT_DESKS && waiting.waitingLegs() == 0) {
                    moveOn(waiting, waiting.stageNow + 1);
                }
            }
            gone += letGo();
        }
        return gone;
    }

    public int day() {
        return today;
    }

    // ---- shares and soundness ----

    public double meanValue(int meaning) throws IllegalArgumentException, ArithmeticException {
        needMeaning(meaning);
        int count = records.counts[meaning];
        if (count == 0) {
            throw new ArithmeticException("no submission has a value for the meaning");
        }
        return (double) records.totals[meaning] / (double) count;
    }

    public float acceptedShare() throws ArithmeticException {
        int accepted = 0;
        int ended = 0;
        for (int i = 0; i < submissions.size(); i++) {
            char status = submissions.get(i).status;
            if (status == ENDED) {
                ended++;
            } else if (status == ACCEPTED || status == REPLACED || status == GONE) {
                accepted++;
            }
        }
        if (accepted + ended == 0) {
            throw new ArithmeticException("no submission is over");
        }
        return (float) accepted / (float) (accepted + ended);
    }

    public boolean isSound(int person) throws IndexOutOfBoundsException {
        needPerson(person);
        for (int meaning = 0; meaning < MEANINGS; meaning++) {
            int found = sourceAnew(person, meaning);
            boolean isFound = !isOutside(found, 0, submissions.size() - 1);
            if (isFound != records.has(person, meaning)) {
                return false;
            }
            if (isFound && !isSoundRecord(person, meaning, valueAnew(submissions.get(found), meaning))) {
                return false;
            }
        }
        return true;
    }

    // ---- what calls need ----

    private Form formAt(int form) {
        if (isOutside(form, 0, forms.size() - 1)) {
            throw new IndexOutOfBoundsException("no such form");
        }
        return forms.get(form);
    }

    private Submission submissionAt(int submission) {
        if (isOutside(submission, 0, submissions.size() - 1)) {
            throw new IndexOutOfBoundsException("no such submission");
        }
        return submissions.get(submission);
    }

    private static Slot slotAt(Sheet sheet, int question) {
        if (isOutside(question, 0, sheet.slots.size() - 1)) {
            throw new IndexOutOfBoundsException("no such question");
        }
        return sheet.slots.get(question);
    }

    private Slot slotCarried(int submission, int question) {
        Submission asked = submissionAt(submission);
        return slotAt(asked.form.carry(asked.sheet), question);
    }

    private Slot slotWithoutValue(int submission, int question) {
        Slot slot = slotCarried(submission, question);
        if (slot.hasValue) {
            throw new IllegalStateException("the question has a value");
        }
        return slot;
    }

    private static int valueOf(Slot slot) {
        if (!slot.hasValue) {
            throw new NoSuchElementException("the question has no value");
        }
        return slot.value;
    }

    private static Version draftOf(Form form) {
        if (!form.hasDraft()) {
            throw new IllegalStateException("the form has no draft");
        }
        return form.versions.get(form.versions.size() - 1);
    }

    private static Version draftWithPlace(Form form) {
        Version draft = draftOf(form);
        if (draft.questions.size() >= MOST_QUESTIONS) {
            throw new IllegalStateException("the draft has 8 questions");
        }
        return draft;
    }

    private static void needQuestionOrNone(Version draft, int question) {
        if (question != NONE && !draft.hasQuestion(question)) {
            throw new NoSuchElementException("the draft has no such question");
        }
    }

    private static void needPublished(Form form) {
        if (form.presentNumber() == NONE) {
            throw new NoSuchElementException("no version was published");
        }
    }

    private static void needPerson(int person) {
        if (isOutside(person, 0, PEOPLE - 1)) {
            throw new IndexOutOfBoundsException("no such person");
        }
    }

    private static void needDesk(int desk) {
        if (isOutside(desk, 0, DESKS - 1)) {
            throw new IndexOutOfBoundsException("no such desk");
        }
    }

    private static void needMeaning(int meaning) {
        if (isOutside(meaning, 0, MEANINGS - 1)) {
            throw new IllegalArgumentException("the meaning is out of range");
        }
    }

    private void needRecord(int person, int meaning) {
        if (!records.has(person, meaning)) {
            throw new NoSuchElementException("the record has no such value");
        }
    }

    private static void needFilling(Submission submission) {
        if (submission.status != DRAFTED && submission.status != SENT_BACK) {
            throw new IllegalStateException("the submission is neither drafted nor sent back");
        }
    }

    private static void needWaiting(Submission submission, int desk) {
        if (submission.status != AT_DESKS) {
            throw new IllegalStateException("the submission is not at desks");
        }
        if (!submission.isAtDesk(desk)) {
            throw new NoSuchElementException("no leg waits at the desk");
        }
    }

    private static boolean isOutside(int number, int least, int greatest) {
        return number < least || number > greatest;
    }

    private static boolean isComputedKind(char kind) {
        return kind == '+' || kind == '-' || kind == '*' || kind == 'l' || kind == 'g';
    }

    // ---- meanings ----

    private boolean hasForeignMeaning(Version draft, int form) {
        for (int i = 0; i < draft.questions.size(); i++) {
            int owner = owners[draft.questions.get(i).meaning];
            if (owner != NONE && owner != form) {
                return true;
            }
        }
        return false;
    }

    private void ownMeanings(Version published, int form) {
        for (int i = 0; i < published.questions.size(); i++) {
            owners[published.questions.get(i).meaning] = form;
        }
    }

    // ---- routes ----

    private boolean isBeingAmended(int submission) {
        for (int i = 0; i < submissions.size(); i++) {
            Submission other = submissions.get(i);
            if (other.amended == submission && other.isUnderWay()) {
                return true;
            }
        }
        return false;
    }

    /** Begins stages from this one on, up to one with a leg that waits; behind the last one it accepts. */
    private void moveOn(Submission submission, int fromStage) {
        submission.status = AT_DESKS;
        for (int stage = fromStage; stage < STAGES; stage++) {
            submission.beginStage(stage, today, desks);
            if (submission.waitingLegs() > 0) {
                return;
            }
        }
        submission.becomeAccepted(today, acceptances);
        acceptances++;
        records.update(submission, submissions);
        int amended = submission.amended;
        if (!isOutside(amended, 0, submissions.size() - 1) && submissions.get(amended).status == ACCEPTED) {
            submissions.get(amended).status = REPLACED;
            records.update(submissions.get(amended), submissions);
        }
    }

    private int letGo() {
        int gone = 0;
        for (int i = 0; i < submissions.size(); i++) {
            Submission kept = submissions.get(i);
            if (kept.status == ACCEPTED && today >= kept.keptUntil && !heldPeople[kept.person]) {
                kept.status = GONE;
                kept.sheet.clearAnswers();
                records.update(kept, submissions);
                gone++;
            }
        }
        return gone;
    }

    private int waitingAhead(Submission waiting, int desk) {
        int ahead = 0;
        for (int i = 0; i < submissions.size(); i++) {
            Submission other = submissions.get(i);
            if (other.isAtDesk(desk) && other.cameBefore(waiting)) {
                ahead++;
            }
        }
        return ahead;
    }

    // ---- records found anew ----

    private boolean tellsAnew(Submission submission, int meaning) {
        return submission.status == ACCEPTED && owners[meaning] == submission.form.number
                && submission.form.carry(submission.sheet).tells(meaning);
    }

    private static int valueAnew(Submission submission, int meaning) {
        return submission.form.carry(submission.sheet).told(meaning);
    }

    private int sourceAnew(int person, int meaning) {
        int found = NONE;
        int lastRank = NONE;
        for (int i = 0; i < submissions.size(); i++) {
            Submission other = submissions.get(i);
            if (other.person == person && other.acceptedRank > lastRank && tellsAnew(other, meaning)) {
                found = i;
                lastRank = other.acceptedRank;
            }
        }
        return found;
    }

    private boolean isSoundRecord(int person, int meaning, int valueFoundAnew) {
        int source = records.sources[person][meaning];
        return !isOutside(source, 0, submissions.size() - 1) && submissions.get(source).status == ACCEPTED
                && records.values[person][meaning] == valueFoundAnew;
    }

    /** A question of a version, with its condition and its map. */
    private static final class Question {
        final int meaning;
        final char formula;
        final int least;
        final int greatest;
        final int most;
        final int first;
        final int second;
        int conditionOn;
        char conditionKind;
        int conditionBound;
        int mapFrom;
        char mapKind;
        int mapNumber;

        Question(int meaning, char formula, int least, int greatest, int most, int first, int second) {
            this.meaning = meaning;
            this.formula = formula;
            this.least = least;
            this.greatest = greatest;
            this.most = most;
            this.first = first;
            this.second = second;
            conditionOn = NONE;
            conditionKind = '=';
            mapFrom = NONE;
            mapKind = '=';
        }

        boolean isComputed() {
            return formula != PLAIN;
        }

        boolean allows(int answer) {
            return answer >= least && answer <= greatest;
        }

        int compute(int one, int other) {
            int result = Math.max(one, other);
            if (formula == '+') {
                result = one + other;
            } else if (formula == '-') {
                result = one - other;
            } else if (formula == '*') {
                result = one * other;
            } else if (formula == 'l') {
                result = Math.min(one, other);
            }
            return Math.max(-GREATEST_VALUE, Math.min(GREATEST_VALUE, result));
        }

        boolean isFulfilledBy(int number) {
            if (conditionKind == '>') {
                return number >= conditionBound;
            }
            if (conditionKind == '<') {
                return number <= conditionBound;
            }
            return number == conditionBound;
        }

        int mapped(int number) {
            if (mapKind == '+') {
                return number + mapNumber;
            }
            if (mapKind == '*') {
                return number * mapNumber;
            }
            if (mapKind == '/' && mapNumber != 0) {
                return number / mapNumber;
            }
            return number;
        }
    }

    /** A leg of the route of a version. */
    private static final class Leg {
        final int stage;
        final int desk;
        final int question;
        final int bound;
        final int patience;

        Leg(int stage, int desk, int question, int bound, int patience) {
            this.stage = stage;
            this.desk = desk;
            this.question = question;
            this.bound = bound;
            this.patience = patience;
        }
    }

    /** A version of a form. */
    private static final class Version {
        final int number;
        final ArrayList<Question> questions;
        final ArrayList<Leg> legs;
        int keepingDays;
        int keepingQuestion;
        int keepingBound;
        int keepingLonger;

        Version(int number) {
            this.number = number;
            questions = new ArrayList<>();
            legs = new ArrayList<>();
            keepingDays = FIRST_KEEPING;
            keepingQuestion = NONE;
        }

        boolean hasQuestion(int question) {
            return question >= 0 && question < questions.size();
        }

        boolean hasLeg(int stage, int desk) {
            for (int i = 0; i < legs.size(); i++) {
                if (legs.get(i).stage == stage && legs.get(i).desk == desk) {
                    return true;
                }
            }
            return false;
        }

        int conditions() {
            int conditions = 0;
            for (int i = 0; i < questions.size(); i++) {
                if (questions.get(i).conditionOn != NONE) {
                    conditions++;
                }
            }
            return conditions;
        }

        int maps() {
            int maps = 0;
            for (int i = 0; i < questions.size(); i++) {
                if (questions.get(i).mapFrom != NONE) {
                    maps++;
                }
            }
            return maps;
        }

        boolean hasMeaningTwice() {
            for (int i = 0; i < questions.size(); i++) {
                for (int j = 0; j < i; j++) {
                    if (questions.get(i).meaning == questions.get(j).meaning) {
                        return true;
                    }
                }
            }
            return false;
        }
    }

    /** A form: its versions, and a sheet for each published one into which answers are carried. */
    private static final class Form {
        final int number;
        final ArrayList<Version> versions;
        final ArrayList<Sheet> sheets;

        Form(int number) {
            this.number = number;
            versions = new ArrayList<>();
            versions.add(new Version(0));
            sheets = new ArrayList<>();
        }

        /** Versions are published one after the other, so all but a draft at the end have sheets. */
        boolean hasDraft() {
            return versions.size() > sheets.size();
        }

        int presentNumber() {
            return sheets.size() - 1;
        }

        void publishDraft() {
            sheets.add(new Sheet(versions.get(sheets.size())));
        }

        /** Returns the sheet of the present version, after carrying the answers of an own sheet there. */
        Sheet carry(Sheet own) {
            Sheet last = own;
            for (int i = own.versionNumber + 1; i < sheets.size(); i++) {
                sheets.get(i).carryFrom(last);
                last = sheets.get(i);
            }
            return last;
        }
    }

    /** The place of a question on a sheet: its answers, and what follows from them. */
    private static final class Slot {
        final Question question;
        final int[] given;
        int count;
        boolean isOpen;
        boolean hasValue;
        int value;
        char lack;
        char rootLack;
        int rootIn;
        int stepsToRoot;

        Slot(Question question) {
            this.question = question;
            given = new int[MOST_ANSWERS];
        }

        void put(int answer) {
            if (count < given.length) {
                given[count] = answer;
                count++;
            }
        }

        boolean isUnanswered() {
            return !question.isComputed() && isOpen && count == 0;
        }

        void valueIs(int number) {
            hasValue = true;
            value = number;
        }

        void valueIsSum() {
            hasValue = true;
            value = 0;
            for (int i = 0; i < count; i++) {
                value += given[i];
            }
        }

        void lacks(char reason, int version) {
            hasValue = false;
            lack = reason;
            rootLack = reason;
            rootIn = version;
            stepsToRoot = 0;
        }

        void lacksBecauseOf(Slot cause, char reason) {
            hasValue = false;
            lack = reason;
            rootLack = cause.rootLack;
            rootIn = cause.rootIn;
            stepsToRoot = cause.stepsToRoot + 1;
        }

        /** Gets the mapped answers from a place of the version before, all of them or none. */
        void takeFrom(Slot source, int version) {
            count = 0;
            if (!source.hasValue) {
                lacksBecauseOf(source, 'f');
                return;
            }
            boolean isFromComputed = source.question.isComputed();
            int answers = isFromComputed ? 1 : source.count;
            if (answers > question.most) {
                lacks('m', version);
                return;
            }
            for (int i = 0; i < answers; i++) {
                int answer = question.mapped(isFromComputed ? source.value : source.given[i]);
                if (!question.allows(answer)) {
                    count = 0;
                    lacks('r', version);
                    return;
                }
                put(answer);
            }
            if (isOpen) {
                valueIsSum();
            } else {
                lacks('c', version);
            }
        }
    }

    /** The answers to the questions of a version, with their values and reasons. */
    private static final class Sheet {
        final int versionNumber;
        final ArrayList<Slot> slots;

        Sheet(Version version) {
            versionNumber = version.number;
            slots = new ArrayList<>();
            for (int i = 0; i < version.questions.size(); i++) {
                slots.add(new Slot(version.questions.get(i)));
            }
            settle();
        }

        /** Finds what follows from the answers in the own version of a submission. */
        void settle() {
            for (int i = 0; i < slots.size(); i++) {
                Slot slot = slots.get(i);
                slot.isOpen = isOpen(slot.question);
                if (slot.question.isComputed()) {
                    compute(slot);
                } else if (!slot.isOpen) {
                    slot.lacks('c', versionNumber);
                } else if (slot.count == 0) {
                    slot.lacks('n', versionNumber);
                } else {
                    slot.valueIsSum();
                }
            }
        }

        /** Carries the answers of the version before to here, and finds what follows from them. */
        void carryFrom(Sheet before) {
            for (int i = 0; i < slots.size(); i++) {
                Slot slot = slots.get(i);
                int from = slot.question.mapFrom;
                slot.isOpen = isOpen(slot.question);
                if (slot.question.isComputed()) {
                    compute(slot);
                } else if (from < 0 || from >= before.slots.size()) {
                    slot.lacks('k', versionNumber);
                } else {
                    slot.takeFrom(before.slots.get(from), versionNumber);
                }
            }
        }

        /** Looks only at an earlier question, which is settled before this one. */
        private boolean isOpen(Question question) {
            int on = question.conditionOn;
            if (on < 0 || on >= slots.size()) {
                return true;
            }
            return slots.get(on).hasValue && question.isFulfilledBy(slots.get(on).value);
        }

        private void compute(Slot slot) {
            Slot first = slots.get(slot.question.first);
            Slot second = slots.get(slot.question.second);
            if (!first.hasValue) {
                slot.lacksBecauseOf(first, 'p');
            } else if (!second.hasValue) {
                slot.lacksBecauseOf(second, 'p');
            } else {
                slot.valueIs(slot.question.compute(first.value, second.value));
            }
        }

        void copyAnswers(Sheet other) {
            for (int i = 0; i < slots.size() && i < other.slots.size(); i++) {
                Slot slot = slots.get(i);
                Slot copied = other.slots.get(i);
                slot.count = 0;
                for (int j = 0; j < copied.count; j++) {
                    slot.put(copied.given[j]);
                }
            }
            settle();
        }

        void clearAnswers() {
            for (int i = 0; i < slots.size(); i++) {
                slots.get(i).count = 0;
            }
            settle();
        }

        boolean isComplete() {
            for (int i = 0; i < slots.size(); i++) {
                if (slots.get(i).isUnanswered()) {
                    return false;
                }
            }
            return true;
        }

        boolean reaches(int question, int bound) {
            return question >= 0 && question < slots.size()
                    && slots.get(question).hasValue && slots.get(question).value >= bound;
        }

        int plainOnes() {
            int mask = 0;
            for (int i = 0; i < slots.size(); i++) {
                if (!slots.get(i).question.isComputed()) {
                    mask |= 1 << i;
                }
            }
            return mask;
        }

        int plainOnesWithoutAnswers() {
            int mask = plainOnes();
            for (int i = 0; i < slots.size(); i++) {
                if (slots.get(i).count > 0) {
                    mask &= ~(1 << i);
                }
            }
            return mask;
        }

        boolean tells(int meaning) {
            for (int i = 0; i < slots.size(); i++) {
                if (slots.get(i).question.meaning == meaning && slots.get(i).hasValue) {
                    return true;
                }
            }
            return false;
        }

        /** Returns the value for a meaning, 0 if there is none. */
        int told(int meaning) {
            for (int i = 0; i < slots.size(); i++) {
                if (slots.get(i).question.meaning == meaning && slots.get(i).hasValue) {
                    return slots.get(i).value;
                }
            }
            return 0;
        }
    }

    /** A leg of a submission: the desk at which it waits, and what its last approval was for. */
    private static final class Visit {
        final Leg leg;
        int desk;
        boolean isApproved;
        int approvedFor;

        Visit(Leg leg) {
            this.leg = leg;
            desk = NONE;
        }
    }

    /** A submission, with what the records keep of it. */
    private static final class Submission {
        final int number;
        final int person;
        final Form form;
        final Version version;
        final int amended;
        final Sheet sheet;
        final ArrayList<Visit> visits;
        final boolean[] isKept;
        final int[] keptValues;
        char status;
        int changeable;
        int stageNow;
        int stageDay;
        int acceptedRank;
        int keptUntil;

        /** Drafts a submission in the present version of a form, of which there must be one. */
        Submission(int number, int person, Form form, int amended) {
            this.number = number;
            this.person = person;
            this.form = form;
            this.amended = amended;
            version = form.versions.get(form.presentNumber());
            sheet = new Sheet(version);
            visits = new ArrayList<>();
            for (int i = 0; i < version.legs.size(); i++) {
                visits.add(new Visit(version.legs.get(i)));
            }
            isKept = new boolean[MEANINGS];
            keptValues = new int[MEANINGS];
            status = DRAFTED;
            changeable = EVERY_QUESTION;
            acceptedRank = NONE;
        }

        boolean isUnderWay() {
            return status == DRAFTED || status == AT_DESKS || status == SENT_BACK;
        }

        boolean canChange(int question) {
            return (changeable >> question & 1) != 0;
        }

        int waitingLegs() {
            int waiting = 0;
            for (int i = 0; i < visits.size(); i++) {
                if (visits.get(i).desk != NONE) {
                    waiting++;
                }
            }
            return waiting;
        }

        boolean isAtDesk(int desk) {
            for (int i = 0; i < visits.size(); i++) {
                if (visits.get(i).desk == desk) {
                    return true;
                }
            }
            return false;
        }

        boolean cameBefore(Submission other) {
            return stageDay < other.stageDay || stageDay == other.stageDay && number < other.number;
        }

        void beginStage(int stage, int day, Desks desks) {
            stageNow = stage;
            stageDay = day;
            for (int i = 0; i < visits.size(); i++) {
                Visit visit = visits.get(i);
                if (visit.leg.stage == stage && comes(visit)) {
                    visit.desk = desks.lastInRow(visit.leg.desk);
                }
            }
        }

        /** A leg that was approved before its submission was sent back comes only for another value. */
        private boolean comes(Visit visit) {
            Leg leg = visit.leg;
            if (leg.question != NONE && !sheet.reaches(leg.question, leg.bound)) {
                return false;
            }
            return !visit.isApproved || visit.approvedFor != valueBehind(leg);
        }

        private int valueBehind(Leg leg) {
            return leg.question == NONE ? 0 : sheet.slots.get(leg.question).value;
        }

        void approveAt(int desk) {
            for (int i = 0; i < visits.size(); i++) {
                if (visits.get(i).desk == desk) {
                    approveLeg(visits.get(i));
                }
            }
        }

        void approveOverdue(int day) {
            for (int i = 0; i < visits.size(); i++) {
                Visit visit = visits.get(i);
                int patience = visit.leg.patience;
                if (visit.desk != NONE && patience > 0 && day - stageDay >= patience) {
                    approveLeg(visit);
                }
            }
        }

        private void approveLeg(Visit visit) {
            visit.desk = NONE;
            visit.isApproved = true;
            visit.approvedFor = valueBehind(visit.leg);
        }

        void leaveDesks(char statusThen) {
            status = statusThen;
            for (int i = 0; i < visits.size(); i++) {
                visits.get(i).desk = NONE;
            }
        }

        void becomeAccepted(int day, int rank) {
            status = ACCEPTED;
            acceptedRank = rank;
            keptUntil = day + version.keepingDays;
            if (sheet.reaches(version.keepingQuestion, version.keepingBound)) {
                keptUntil += version.keepingLonger;
            }
        }
    }

    /** The desks and their substitutes. */
    private static final class Desks {
        final int[] substitutes;

        Desks() {
            substitutes = new int[DESKS];
            for (int desk = 0; desk < DESKS; desk++) {
                substitutes[desk] = NONE;
            }
        }

        int lastInRow(int desk) {
            int last = desk;
            for (int step = 0; step < DESKS && substitutes[last] != NONE; step++) {
                last = substitutes[last];
            }
            return last;
        }

        boolean leadsTo(int from, int desk) {
            int next = from;
            for (int step = 0; step < DESKS && next != NONE; step++) {
                if (next == desk) {
                    return true;
                }
                next = substitutes[next];
            }
            return false;
        }
    }

    /** What is kept of the values that submissions tell: the records of people and the totals. */
    private static final class Records {
        final int[][] values;
        final int[][] sources;
        final int[][] valuesBefore;
        final int[][] sourcesBefore;
        final long[] totals;
        final int[] counts;

        Records() {
            values = new int[PEOPLE][MEANINGS];
            sources = new int[PEOPLE][MEANINGS];
            valuesBefore = new int[PEOPLE][MEANINGS];
            sourcesBefore = new int[PEOPLE][MEANINGS];
            totals = new long[MEANINGS];
            counts = new int[MEANINGS];
            for (int person = 0; person < PEOPLE; person++) {
                for (int meaning = 0; meaning < MEANINGS; meaning++) {
                    sources[person][meaning] = NONE;
                }
            }
        }

        boolean has(int person, int meaning) {
            return sources[person][meaning] != NONE;
        }

        /** Keeps what a submission tells now, instead of what it told before. */
        void update(Submission changed, ArrayList<Submission> all) {
            for (int meaning = 0; meaning < MEANINGS; meaning++) {
                if (changed.isKept[meaning]) {
                    changed.isKept[meaning] = false;
                    totals[meaning] -= changed.keptValues[meaning];
                    counts[meaning]--;
                }
            }
            if (changed.status == ACCEPTED) {
                keepValues(changed, changed.form.carry(changed.sheet));
            }
            for (int meaning = 0; meaning < MEANINGS; meaning++) {
                chooseSource(changed.person, meaning, all);
            }
        }

        /** The form of the submission owns all meanings of its present version: publish refuses other ones. */
        private void keepValues(Submission changed, Sheet carried) {
            for (int i = 0; i < carried.slots.size(); i++) {
                Slot slot = carried.slots.get(i);
                int meaning = slot.question.meaning;
                if (slot.hasValue) {
                    changed.isKept[meaning] = true;
                    changed.keptValues[meaning] = slot.value;
                    totals[meaning] += slot.value;
                    counts[meaning]++;
                }
            }
        }

        private void chooseSource(int person, int meaning, ArrayList<Submission> all) {
            int lastRank = NONE;
            sources[person][meaning] = NONE;
            for (int i = 0; i < all.size(); i++) {
                Submission other = all.get(i);
                if (other.person == person && other.isKept[meaning] && other.acceptedRank > lastRank) {
                    lastRank = other.acceptedRank;
                    sources[person][meaning] = i;
                    values[person][meaning] = other.keptValues[meaning];
                }
            }
        }

        void remember() {
            for (int person = 0; person < PEOPLE; person++) {
                for (int meaning = 0; meaning < MEANINGS; meaning++) {
                    valuesBefore[person][meaning] = values[person][meaning];
                    sourcesBefore[person][meaning] = sources[person][meaning];
                }
            }
        }

        /** Counts the values that are other ones than those remembered, or only there or only here. */
        int changes() {
            int changes = 0;
            for (int person = 0; person < PEOPLE; person++) {
                for (int meaning = 0; meaning < MEANINGS; meaning++) {
                    boolean wasThere = sourcesBefore[person][meaning] != NONE;
                    boolean isThere = has(person, meaning);
                    boolean isOther = values[person][meaning] != valuesBefore[person][meaning];
                    if (wasThere != isThere || isThere && isOther) {
                        changes++;
                    }
                }
            }
            return changes;
        }
    }
}

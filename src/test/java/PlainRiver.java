import java.util.ArrayList;
import java.util.HashMap;
import java.util.List;
import java.util.Map;
import java.util.NoSuchElementException;
import java.util.TreeMap;

/**
 * The document told a second time, as plainly as it goes: nothing that can be found from the submissions is kept,
 * values and reasons are asked for recursively. RandomRunsTest and CornersTest compare the program with it.
 */
public final class PlainRiver {
    private static final class Q {
        int meaning;
        char kind = 'q';
        int least;
        int greatest;
        int most;
        int first;
        int second;
        int[] condition;
        int[] map;
    }

    private static final class L {
        int stage;
        int desk;
        int question;
        int bound;
        int patience;
    }

    private static final class V {
        final List<Q> questions = new ArrayList<>();
        final List<L> legs = new ArrayList<>();
        int[] keeping = {100, -1, 0, 0};
    }

    private static final class F {
        final List<V> versions = new ArrayList<>();
        int published;
    }

    private static final class S {
        int person;
        int form;
        int version;
        int amends = -1;
        char state = 'd';
        final Map<Integer, List<Integer>> answers = new HashMap<>();
        boolean[] canChange;
        int stage;
        int began;
        /** The legs that wait, with their desks. */
        final Map<L, Integer> waiting = new HashMap<>();
        /** The legs that were approved, with the values of their questions. */
        final Map<L, Integer> approved = new HashMap<>();
        int order = -1;
        int last;
    }

    private final List<F> forms = new ArrayList<>();
    private final List<S> all = new ArrayList<>();
    private final Map<Integer, Integer> owners = new HashMap<>();
    private final Map<Integer, Integer> substitutes = new HashMap<>();
    private final boolean[] held = new boolean[6];
    private int today;
    private int order;

    // ---- the words of the document ----

    private List<Integer> answersIn(S s, int version, int question) {
        Q q = forms.get(s.form).versions.get(version).questions.get(question);
        if (version == s.version) {
            return s.answers.getOrDefault(question, List.of());
        }
        return lossIn(s, version, question) == 0 ? mapped(s, version, q) : List.of();
    }

    private List<Integer> mapped(S s, int version, Q q) {
        Q from = forms.get(s.form).versions.get(version - 1).questions.get(q.map[0]);
        List<Integer> before = from.kind == 'q'
                ? answersIn(s, version - 1, q.map[0]) : List.of(valueIn(s, version - 1, q.map[0]));
        List<Integer> after = new ArrayList<>();
        for (int answer : before) {
            switch ((char) q.map[1]) {
                case '+' -> after.add(answer + q.map[2]);
                case '*' -> after.add(answer * q.map[2]);
                case '/' -> after.add(answer / q.map[2]);
                default -> after.add(answer);
            }
        }
        return after;
    }

    private char lossIn(S s, int version, int question) {
        Q q = forms.get(s.form).versions.get(version).questions.get(question);
        if (q.map == null) {
            return 'k';
        }
        if (valueIn(s, version - 1, q.map[0]) == null) {
            return 'f';
        }
        List<Integer> got = mapped(s, version, q);
        if (got.size() > q.most) {
            return 'm';
        }
        return got.stream().allMatch(a -> a >= q.least && a <= q.greatest) ? 0 : 'r';
    }

    private boolean askedIn(S s, int version, int question) {
        Q q = forms.get(s.form).versions.get(version).questions.get(question);
        if (q.condition == null) {
            return true;
        }
        Integer other = valueIn(s, version, q.condition[0]);
        if (other == null) {
            return false;
        }
        return switch ((char) q.condition[1]) {
            case '>' -> other >= q.condition[2];
            case '<' -> other <= q.condition[2];
            default -> other == q.condition[2];
        };
    }

    private Integer valueIn(S s, int version, int question) {
        Q q = forms.get(s.form).versions.get(version).questions.get(question);
        if (q.kind == 'q') {
            List<Integer> answers = answersIn(s, version, question);
            if (answers.isEmpty() || !askedIn(s, version, question)) {
                return null;
            }
            return answers.stream().mapToInt(a -> a).sum();
        }
        Integer one = valueIn(s, version, q.first);
        Integer two = valueIn(s, version, q.second);
        if (one == null || two == null) {
            return null;
        }
        int result = switch (q.kind) {
            case '+' -> one + two;
            case '-' -> one - two;
            case '*' -> one * two;
            case 'l' -> one < two ? one : two;
            default -> one > two ? one : two;
        };
        return result < -9999 ? -9999 : result > 9999 ? 9999 : result;
    }

    /** Returns the reason, its root, the version of this and the number of causes. */
    private int[] reasonsIn(S s, int version, int question) {
        Q q = forms.get(s.form).versions.get(version).questions.get(question);
        int[] cause;
        char reason;
        if (q.kind != 'q') {
            reason = 'p';
            cause = reasonsIn(s, version, valueIn(s, version, q.first) == null ? q.first : q.second);
        } else if (version == s.version) {
            reason = askedIn(s, version, question) ? 'n' : 'c';
            cause = null;
        } else {
            char loss = lossIn(s, version, question);
            reason = loss == 0 ? 'c' : loss;
            cause = loss == 'f' ? reasonsIn(s, version - 1, q.map[0]) : null;
        }
        return cause == null
                ? new int[] {reason, reason, version, 0} : new int[] {reason, cause[1], cause[2], cause[3] + 1};
    }

    private int presentOf(S s) {
        return forms.get(s.form).published - 1;
    }

    private Integer tells(S s, int meaning) {
        if (s.state != 'a' || !Integer.valueOf(s.form).equals(owners.get(meaning))) {
            return null;
        }
        List<Q> questions = forms.get(s.form).versions.get(presentOf(s)).questions;
        for (int i = 0; i < questions.size(); i++) {
            if (questions.get(i).meaning == meaning) {
                return valueIn(s, presentOf(s), i);
            }
        }
        return null;
    }

    private S sourceOf(int person, int meaning) {
        S source = null;
        for (S s : all) {
            if (s.person == person && tells(s, meaning) != null && (source == null || s.order > source.order)) {
                source = s;
            }
        }
        return source;
    }

    private Map<Integer, Integer> allRecords() {
        Map<Integer, Integer> records = new TreeMap<>();
        for (int person = 0; person < 6; person++) {
            for (int meaning = 0; meaning < 16; meaning++) {
                S source = sourceOf(person, meaning);
                if (source != null) {
                    records.put(person * 16 + meaning, tells(source, meaning));
                }
            }
        }
        return records;
    }

    private boolean needed(S s, int question, int bound) {
        if (question == -1) {
            return true;
        }
        Integer value = valueIn(s, s.version, question);
        return value != null && value >= bound;
    }

    private void stageBegins(S s, int stage) {
        if (stage == 3) {
            accept(s);
            return;
        }
        s.state = 's';
        s.stage = stage;
        s.began = today;
        for (L leg : forms.get(s.form).versions.get(s.version).legs) {
            if (leg.stage != stage || !needed(s, leg.question, leg.bound)) {
                continue;
            }
            boolean wasApproved = s.approved.containsKey(leg)
                    && (leg.question == -1 || s.approved.get(leg).equals(valueIn(s, s.version, leg.question)));
            if (!wasApproved) {
                int desk = leg.desk;
                while (substitutes.containsKey(desk)) {
                    desk = substitutes.get(desk);
                }
                s.waiting.put(leg, desk);
            }
        }
        if (s.waiting.isEmpty()) {
            stageBegins(s, stage + 1);
        }
    }

    private void approve(S s, List<L> legs) {
        for (L leg : legs) {
            s.waiting.remove(leg);
            s.approved.put(leg, leg.question == -1 ? 0 : valueIn(s, s.version, leg.question));
        }
        if (!legs.isEmpty() && s.waiting.isEmpty()) {
            stageBegins(s, s.stage + 1);
        }
    }

    private void accept(S s) {
        int[] keeping = forms.get(s.form).versions.get(s.version).keeping;
        s.state = 'a';
        s.order = order++;
        s.last = today + keeping[0];
        if (keeping[1] != -1 && needed(s, keeping[1], keeping[2])) {
            s.last += keeping[3];
        }
        if (s.amends != -1 && all.get(s.amends).state == 'a') {
            all.get(s.amends).state = 'o';
        }
    }

    // ---- what calls need ----

    private static void bounds(boolean isRight) {
        if (!isRight) {
            throw new IndexOutOfBoundsException();
        }
    }

    private static void argument(boolean isRight) {
        if (!isRight) {
            throw new IllegalArgumentException();
        }
    }

    private static void status(boolean isRight) {
        if (!isRight) {
            throw new IllegalStateException();
        }
    }

    private static void element(boolean isRight) {
        if (!isRight) {
            throw new NoSuchElementException();
        }
    }

    private static void supported(boolean isRight) {
        if (!isRight) {
            throw new UnsupportedOperationException();
        }
    }

    private static boolean in(int number, int least, int greatest) {
        return number >= least && number <= greatest;
    }

    private F form(int form) {
        bounds(in(form, 0, forms.size() - 1));
        return forms.get(form);
    }

    private S submission(int submission) {
        bounds(in(submission, 0, all.size() - 1));
        return all.get(submission);
    }

    private V draft(F f) {
        status(f.versions.size() > f.published);
        return f.versions.get(f.published);
    }

    private static boolean has(V v, int question) {
        return in(question, 0, v.questions.size() - 1);
    }

    private Q own(S s, int question) {
        V v = forms.get(s.form).versions.get(s.version);
        bounds(has(v, question));
        return v.questions.get(question);
    }

    // ---- the face ----

    public int addForm() {
        status(forms.size() < 3);
        F f = new F();
        f.versions.add(new V());
        forms.add(f);
        return forms.size() - 1;
    }

    public int addVersion(int form) {
        F f = form(form);
        status(f.versions.size() == f.published && f.versions.size() < 4);
        f.versions.add(new V());
        return f.versions.size() - 1;
    }

    public int addQuestion(int form, int meaning, int least, int greatest, int most) {
        F f = form(form);
        argument(in(meaning, 0, 15) && in(least, -999, 999) && in(greatest, least, 999) && in(most, 1, 4));
        V v = draft(f);
        status(v.questions.size() < 8);
        Q q = new Q();
        q.meaning = meaning;
        q.least = least;
        q.greatest = greatest;
        q.most = most;
        v.questions.add(q);
        return v.questions.size() - 1;
    }

    public int addComputed(int form, int meaning, char kind, int first, int second) {
        F f = form(form);
        argument(in(meaning, 0, 15) && "+-*lg".indexOf(kind) >= 0);
        V v = draft(f);
        status(v.questions.size() < 8);
        element(has(v, first) && has(v, second));
        Q q = new Q();
        q.meaning = meaning;
        q.kind = kind;
        q.first = first;
        q.second = second;
        v.questions.add(q);
        return v.questions.size() - 1;
    }

    public int setCondition(int form, int question, int other, char kind, int bound) {
        F f = form(form);
        argument("><=".indexOf(kind) >= 0 && in(bound, -9999, 9999));
        V v = draft(f);
        element(has(v, question) && has(v, other));
        Q q = v.questions.get(question);
        supported(q.kind == 'q' && other < question);
        q.condition = new int[] {other, kind, bound};
        return (int) v.questions.stream().filter(x -> x.condition != null).count();
    }

    public int setMap(int form, int question, int from, char kind, int number) {
        F f = form(form);
        argument("=+*/".indexOf(kind) >= 0 && in(number, -99, 99) && (kind != '/' || number != 0));
        V v = draft(f);
        status(f.published > 0);
        element(has(v, question) && has(f.versions.get(f.published - 1), from));
        Q q = v.questions.get(question);
        supported(q.kind == 'q');
        q.map = new int[] {from, kind, number};
        return (int) v.questions.stream().filter(x -> x.map != null).count();
    }

    public int addLeg(int form, int stage, int desk, int question, int bound, int patience) {
        F f = form(form);
        argument(in(stage, 0, 2) && in(desk, 0, 5) && in(bound, -9999, 9999) && in(patience, 0, 60));
        V v = draft(f);
        status(v.legs.size() < 6 && v.legs.stream().noneMatch(l -> l.stage == stage && l.desk == desk));
        element(question == -1 || has(v, question));
        L leg = new L();
        leg.stage = stage;
        leg.desk = desk;
        leg.question = question;
        leg.bound = bound;
        leg.patience = patience;
        v.legs.add(leg);
        return v.legs.size();
    }

    public int setKeeping(int form, int days, int question, int bound, int longer) {
        F f = form(form);
        argument(in(days, 1, 400) && in(bound, -9999, 9999) && in(longer, 0, 400));
        V v = draft(f);
        element(question == -1 || has(v, question));
        int before = v.keeping[0];
        v.keeping = new int[] {days, question, bound, longer};
        return before;
    }

    public int publish(int form) {
        F f = form(form);
        V v = draft(f);
        status(!v.questions.isEmpty());
        supported(v.questions.stream().mapToInt(q -> q.meaning).distinct().count() == v.questions.size());
        supported(v.questions.stream().allMatch(q -> owners.getOrDefault(q.meaning, form) == form));
        Map<Integer, Integer> before = allRecords();
        f.published++;
        v.questions.forEach(q -> owners.put(q.meaning, form));
        Map<Integer, Integer> after = allRecords();
        int changes = 0;
        for (int key = 0; key < 96; key++) {
            Integer one = before.get(key);
            Integer two = after.get(key);
            if (one == null ? two != null : !one.equals(two)) {
                changes++;
            }
        }
        return changes;
    }

    public int present(int form) {
        F f = form(form);
        element(f.published > 0);
        return f.published - 1;
    }

    public int owner(int meaning) {
        argument(in(meaning, 0, 15));
        element(owners.containsKey(meaning));
        return owners.get(meaning);
    }

    public int setSubstitute(int desk, int other) {
        bounds(in(desk, 0, 5) && in(other, -1, 5));
        argument(desk != other);
        for (Integer next = other; next != null; next = substitutes.get(next)) {
            supported(next != desk);
        }
        Integer before = other == -1 ? substitutes.remove(desk) : substitutes.put(desk, other);
        return before == null ? -1 : before;
    }

    private S added(int person, int form, int amends) {
        S s = new S();
        s.person = person;
        s.form = form;
        s.version = forms.get(form).published - 1;
        s.amends = amends;
        all.add(s);
        return s;
    }

    public int start(int person, int form) {
        bounds(in(person, 0, 5));
        F f = form(form);
        status(all.size() < 24);
        element(f.published > 0);
        added(person, form, -1);
        return all.size() - 1;
    }

    public int amend(int submission) {
        S s = submission(submission);
        status(s.state == 'a' && all.size() < 24);
        status(all.stream().noneMatch(o -> o.amends == submission && "dsr".indexOf(o.state) >= 0));
        S next = added(s.person, s.form, submission);
        for (int i = 0; i < forms.get(s.form).versions.get(next.version).questions.size(); i++) {
            if (forms.get(s.form).versions.get(next.version).questions.get(i).kind == 'q') {
                next.answers.put(i, new ArrayList<>(answersIn(s, next.version, i)));
            }
        }
        return all.size() - 1;
    }

    public int answer(int submission, int question, int answer) {
        S s = submission(submission);
        Q q = own(s, question);
        status(s.state == 'd' || s.state == 'r');
        supported(q.kind == 'q' && askedIn(s, s.version, question) && (s.state == 'd' || s.canChange[question]));
        List<Integer> answers = s.answers.computeIfAbsent(question, k -> new ArrayList<>());
        argument(in(answer, q.least, q.greatest) && answers.size() < q.most);
        answers.add(answer);
        return answers.size();
    }

    public int takeBack(int submission, int question) {
        S s = submission(submission);
        Q q = own(s, question);
        status(s.state == 'd' || s.state == 'r');
        supported(q.kind == 'q' && (s.state == 'd' || s.canChange[question]));
        List<Integer> answers = s.answers.getOrDefault(question, List.of());
        element(!answers.isEmpty());
        return answers.remove(answers.size() - 1);
    }

    public int prefill(int submission) {
        S s = submission(submission);
        status(s.state == 'd');
        int answered = 0;
        List<Q> questions = forms.get(s.form).versions.get(s.version).questions;
        for (int i = 0; i < questions.size(); i++) {
            Q q = questions.get(i);
            S source = sourceOf(s.person, q.meaning);
            if (q.kind != 'q' || !askedIn(s, s.version, i) || answers(submission, i) > 0 || source == null) {
                continue;
            }
            int value = tells(source, q.meaning);
            if (in(value, q.least, q.greatest)) {
                s.answers.put(i, new ArrayList<>(List.of(value)));
                answered++;
            }
        }
        return answered;
    }

    public int submit(int submission) {
        S s = submission(submission);
        status(s.state == 'd' || s.state == 'r');
        List<Q> questions = forms.get(s.form).versions.get(s.version).questions;
        for (int i = 0; i < questions.size(); i++) {
            supported(questions.get(i).kind != 'q' || !askedIn(s, s.version, i) || answers(submission, i) > 0);
        }
        stageBegins(s, s.state == 'r' ? s.stage : 0);
        return s.waiting.size();
    }

    private List<L> legsAt(int submission, int desk) {
        S s = submission(submission);
        status(s.state == 's');
        element(s.waiting.containsValue(desk));
        List<L> legs = new ArrayList<>();
        s.waiting.forEach((leg, at) -> {
            if (at == desk) {
                legs.add(leg);
            }
        });
        return legs;
    }

    public int approve(int submission, int desk) {
        S s = submission(submission);
        bounds(in(desk, 0, 5));
        approve(s, legsAt(submission, desk));
        return s.waiting.size();
    }

    public int sendBack(int submission, int desk, int questions) {
        S s = submission(submission);
        bounds(in(desk, 0, 5));
        List<Q> own = forms.get(s.form).versions.get(s.version).questions;
        argument(questions != 0);
        for (int bit = 0; bit < 32; bit++) {
            argument((questions >>> bit & 1) == 0 || bit < own.size() && own.get(bit).kind == 'q');
        }
        legsAt(submission, desk);
        int before = s.waiting.size();
        s.waiting.clear();
        s.state = 'r';
        s.canChange = new boolean[own.size()];
        for (int i = 0; i < own.size(); i++) {
            s.canChange[i] = (questions >> i & 1) == 1 || answers(submission, i) == 0;
        }
        return before;
    }

    public int reject(int submission, int desk) {
        S s = submission(submission);
        bounds(in(desk, 0, 5));
        legsAt(submission, desk);
        s.waiting.clear();
        s.state = 'x';
        return (int) all.stream().filter(o -> o.waiting.containsValue(desk)).count();
    }

    public char withdraw(int submission) {
        S s = submission(submission);
        status("dsr".indexOf(s.state) >= 0);
        char before = s.state;
        s.state = 'x';
        s.waiting.clear();
        return before;
    }

    public char state(int submission) {
        return submission(submission).state;
    }

    public boolean isAsked(int submission, int question) {
        S s = submission(submission);
        own(s, question);
        return askedIn(s, s.version, question);
    }

    public int value(int submission, int question) {
        S s = submission(submission);
        own(s, question);
        Integer value = valueIn(s, s.version, question);
        element(value != null);
        return value;
    }

    public int answers(int submission, int question) {
        S s = submission(submission);
        own(s, question);
        return s.answers.getOrDefault(question, List.of()).size();
    }

    public int stage(int submission) {
        S s = submission(submission);
        status(s.state == 's' || s.state == 'r');
        return s.stage;
    }

    public boolean waits(int submission, int desk) {
        S s = submission(submission);
        bounds(in(desk, 0, 5));
        return s.waiting.containsValue(desk);
    }

    public int waitingAt(int desk, int rank) {
        bounds(in(desk, 0, 5));
        List<Integer> waiting = new ArrayList<>();
        for (int i = 0; i < all.size(); i++) {
            if (all.get(i).waiting.containsValue(desk)) {
                waiting.add(i);
            }
        }
        waiting.sort((a, b) -> all.get(a).began != all.get(b).began
                ? Integer.compare(all.get(a).began, all.get(b).began) : Integer.compare(a, b));
        element(in(rank, 0, waiting.size() - 1));
        return waiting.get(rank);
    }

    private void presentQuestion(S s, int question) {
        bounds(has(forms.get(s.form).versions.get(presentOf(s)), question));
    }

    public int carried(int submission, int question) {
        S s = submission(submission);
        presentQuestion(s, question);
        Integer value = valueIn(s, presentOf(s), question);
        element(value != null);
        return value;
    }

    private int[] reasons(int submission, int question) {
        S s = submission(submission);
        presentQuestion(s, question);
        status(valueIn(s, presentOf(s), question) == null);
        return reasonsIn(s, presentOf(s), question);
    }

    public char reason(int submission, int question) {
        return (char) reasons(submission, question)[0];
    }

    public char root(int submission, int question) {
        return (char) reasons(submission, question)[1];
    }

    public int rootVersion(int submission, int question) {
        return reasons(submission, question)[2];
    }

    public int causes(int submission, int question) {
        return reasons(submission, question)[3];
    }

    public int record(int person, int meaning) {
        return tells(all.get(source(person, meaning)), meaning);
    }

    public int recordAnew(int person, int meaning) {
        return record(person, meaning);
    }

    public int source(int person, int meaning) {
        bounds(in(person, 0, 5));
        argument(in(meaning, 0, 15));
        S source = sourceOf(person, meaning);
        element(source != null);
        return all.indexOf(source);
    }

    public long total(int meaning) {
        argument(in(meaning, 0, 15));
        return all.stream().filter(s -> tells(s, meaning) != null).mapToLong(s -> tells(s, meaning)).sum();
    }

    public long totalAnew(int meaning) {
        return total(meaning);
    }

    public int counted(int meaning) {
        argument(in(meaning, 0, 15));
        return (int) all.stream().filter(s -> tells(s, meaning) != null).count();
    }

    public boolean hold(int person, boolean isHeld) {
        bounds(in(person, 0, 5));
        boolean before = held[person];
        held[person] = isHeld;
        return before;
    }

    public int lastDay(int submission) {
        S s = submission(submission);
        status(s.state == 'a');
        return s.last;
    }

    public int pass(int days) {
        argument(in(days, 1, 60) && today + days <= 2000);
        int gone = 0;
        for (int i = 0; i < days; i++) {
            today++;
            for (S s : all) {
                List<L> over = new ArrayList<>(s.waiting.keySet());
                over.removeIf(leg -> leg.patience == 0 || s.began + leg.patience > today);
                approve(s, over);
            }
            for (S s : all) {
                if (s.state == 'a' && s.last <= today && !held[s.person]) {
                    s.state = 'g';
                    s.answers.clear();
                    gone++;
                }
            }
        }
        return gone;
    }

    public int day() {
        return today;
    }

    public double meanValue(int meaning) {
        argument(in(meaning, 0, 15));
        if (counted(meaning) == 0) {
            throw new ArithmeticException();
        }
        return (double) total(meaning) / (double) counted(meaning);
    }

    public float acceptedShare() {
        long accepted = all.stream().filter(s -> "aog".indexOf(s.state) >= 0).count();
        long ended = all.stream().filter(s -> s.state == 'x').count();
        if (accepted + ended == 0) {
            throw new ArithmeticException();
        }
        return (float) accepted / (float) (accepted + ended);
    }

    public boolean isSound(int person) {
        bounds(in(person, 0, 5));
        return true;
    }
}

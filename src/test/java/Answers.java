import java.util.ArrayList;
import java.util.List;
import java.util.function.Predicate;
import java.util.function.ToIntFunction;

/** What a bus answers at one moment, so that two moments or two buses can be compared. */
final class Answers {
    private static final int NO_TICKET = Integer.MIN_VALUE;
    private static final int FIRST_TICKET = -2;
    private static final int LAST_TICKET = 300;

    /** A question of a getter; ticket is the one that it asks about, or NO_TICKET. */
    record Question(String name, int ticket, ToIntFunction<IdInterconnect> ask) {
    }

    private static final List<Question> OF_BUS = ofBus();
    private static final List<List<Question>> OF_TICKETS = ofTickets();

    private final List<Question> asked = new ArrayList<>();
    private final List<Integer> given = new ArrayList<>();

    private Answers() {
    }

    /** Every getter, about every ticket of a bus that has given no more than a hundred. */
    static Answers of(IdInterconnect x) {
        return of(x, FIRST_TICKET, 110);
    }

    /** Every getter, about the tickets first..last. */
    static Answers of(IdInterconnect x, int first, int last) {
        Answers answers = new Answers();
        answers.ask(x, OF_BUS);
        for (int t = Math.max(first, FIRST_TICKET); t <= last; t++) {
            answers.ask(x, OF_TICKETS.get(t - FIRST_TICKET));
        }
        return answers;
    }

    private void ask(IdInterconnect x, List<Question> questions) {
        for (Question question : questions) {
            asked.add(question);
            given.add(question.ask.applyAsInt(x));
        }
    }

    void mustBe(String when, Answers due) {
        mustBe(when, due, question -> false);
    }

    /** Compares all answers but those to the questions that may differ. */
    void mustBe(String when, Answers due, Predicate<Question> mayDiffer) {
        for (int i = 0; i < asked.size(); i++) {
            int got = given.get(i);
            int want = due.given.get(i);
            if (got != want && !mayDiffer.test(asked.get(i))) {
                Due.is(when + ": " + asked.get(i).name, got, want);
            }
        }
    }

    private static List<Question> ofBus() {
        List<Question> all = new ArrayList<>();
        all.add(new Question("cycle()", NO_TICKET, IdInterconnect::cycle));
        for (int m = -1; m <= 2; m++) {
            int manager = m;
            all.add(new Question("outstanding(" + m + ")", NO_TICKET, x -> x.outstanding(manager)));
            all.add(new Question("pendingData(" + m + ")", NO_TICKET, x -> x.pendingData(manager)));
        }
        for (int s = -1; s <= 4; s++) {
            int subordinate = s;
            all.add(new Question("subLoad(" + s + ")", NO_TICKET, x -> x.subLoad(subordinate)));
        }
        for (int a = -1; a <= 32; a++) {
            int address = a;
            all.add(new Question("memory(" + a + ")", NO_TICKET, x -> x.memory(address)));
        }
        return all;
    }

    private static List<List<Question>> ofTickets() {
        List<List<Question>> all = new ArrayList<>();
        for (int t = FIRST_TICKET; t <= LAST_TICKET; t++) {
            all.add(ofTicket(t));
        }
        return all;
    }

    private static List<Question> ofTicket(int t) {
        List<Question> all = new ArrayList<>();
        all.add(new Question("status(" + t + ")", t, x -> x.status(t)));
        all.add(new Question("beats(" + t + ")", t, x -> x.beats(t)));
        all.add(new Question("doneOrder(" + t + ")", t, x -> x.doneOrder(t)));
        all.add(new Question("doneCycle(" + t + ")", t, x -> x.doneCycle(t)));
        for (int i = -1; i <= 4; i++) {
            int beat = i;
            all.add(new Question("readData(" + t + ", " + i + ")", t, x -> x.readData(t, beat)));
        }
        return all;
    }
}

import java.util.ArrayList;
import java.util.HashSet;
import java.util.List;
import java.util.Set;

/**
 * The document's terms word for word: tries every list of the calls of the record and keeps those that are
 * explanations. Slow, and written without a look at the program, so that the two can be held against each other.
 */
final class PlainRecorder {
    private static final class Call {
        int worker;
        boolean put;
        int value;
        int begunAt;
        int endedAt;
        boolean givenUp;
        int answer;

        boolean isOpen() {
            return endedAt == 0 && !givenUp;
        }
    }

    private int kind;
    private int capacity;
    private int events;
    private int brokenAt;
    private List<Call> calls;
    private final List<List<Call>> explanations = new ArrayList<>();
    private final Set<List<Integer>> outcomes = new HashSet<>();
    private final List<Set<Integer>> answers = List.of(new HashSet<>(), new HashSet<>(), new HashSet<>());

    PlainRecorder(int kind, int capacity) {
        renew(kind, capacity);
    }

    void renew(int newKind, int newCapacity) {
        kind = newKind == 1 || newKind == 2 ? newKind : 0;
        capacity = newCapacity < 1 ? 1 : newCapacity > 8 ? 8 : newCapacity;
        events = 0;
        brokenAt = 0;
        calls = new ArrayList<>();
        explain();
    }

    boolean beginPut(int worker, int value) {
        boolean refused = worker < 0 || worker > 2 || value < 0 || value > 15 || open(worker) != null
            || calls.size() == 8 || kind == 2 && worker != 0;
        return !refused && begin(worker, true, value);
    }

    boolean beginTake(int worker) {
        boolean refused = worker < 0 || worker > 2 || open(worker) != null || calls.size() == 8;
        return !refused && begin(worker, false, 0);
    }

    boolean endPut(int worker, boolean stored) {
        Call call = open(worker);
        return call != null && call.put && end(call, stored ? 1 : 0);
    }

    boolean endTake(int worker, int value) {
        Call call = open(worker);
        return call != null && !call.put && value >= -1 && value <= 15 && end(call, value);
    }

    boolean giveUp(int worker) {
        Call call = open(worker);
        if (call == null) {
            return false;
        }
        call.givenUp = true;
        return event();
    }

    int events() {
        return events;
    }

    int begun() {
        return calls.size();
    }

    boolean fits() {
        return !explanations.isEmpty();
    }

    int brokenAt() {
        return brokenAt;
    }

    long explanations() {
        return explanations.size();
    }

    int outcomes() {
        return outcomes.size();
    }

    int fewest() {
        return outcomes.stream().mapToInt(List::size).min().orElse(-1);
    }

    int most() {
        return outcomes.stream().mapToInt(List::size).max().orElse(-1);
    }

    boolean mayHold(int place, int value) {
        return outcomes.stream().anyMatch(row -> place >= 0 && place < row.size() && row.get(place) == value);
    }

    boolean certain(int worker) {
        Call call = open(worker);
        return fits() && call != null && explanations.stream().allMatch(list -> list.contains(call));
    }

    int answers(int worker) {
        return open(worker) == null ? 0 : answers.get(worker).size();
    }

    /** The answers that would keep the record fitting if the worker's open call were ended with one of them. */
    List<Integer> possibleAnswers(int worker) {
        return open(worker) == null ? List.of() : answers.get(worker).stream().sorted().toList();
    }

    boolean hasOpenPut(int worker) {
        Call call = open(worker);
        return call != null && call.put;
    }

    private Call open(int worker) {
        for (Call call : calls) {
            if (call.worker == worker && call.isOpen()) {
                return call;
            }
        }
        return null;
    }

    private boolean begin(int worker, boolean put, int value) {
        Call call = new Call();
        call.worker = worker;
        call.put = put;
        call.value = value;
        call.begunAt = events + 1;
        calls.add(call);
        return event();
    }

    private boolean end(Call call, int answer) {
        call.answer = answer;
        call.endedAt = events + 1;
        return event();
    }

    private boolean event() {
        events++;
        explain();
        if (brokenAt == 0 && !fits()) {
            brokenAt = events;
        }
        return true;
    }

    private void explain() {
        explanations.clear();
        outcomes.clear();
        answers.forEach(Set::clear);
        tryEveryList(new ArrayList<>());
    }

    private void tryEveryList(List<Call> list) {
        if (hasRightCalls(list) && isInOrder(list)) {
            carryOut(list);
        }
        for (Call call : calls) {
            if (!list.contains(call)) {
                list.add(call);
                tryEveryList(list);
                list.remove(list.size() - 1);
            }
        }
    }

    private boolean hasRightCalls(List<Call> list) {
        for (Call call : calls) {
            boolean ended = call.endedAt != 0;
            if (ended && !list.contains(call) || call.givenUp && list.contains(call)) {
                return false;
            }
        }
        return true;
    }

    private boolean isInOrder(List<Call> list) {
        for (int early = 0; early < list.size(); early++) {
            for (int late = early + 1; late < list.size(); late++) {
                int ended = list.get(late).endedAt;
                if (ended != 0 && ended < list.get(early).begunAt) {
                    return false;
                }
            }
        }
        return true;
    }

    private void carryOut(List<Call> list) {
        List<Integer> row = new ArrayList<>();
        int[] got = new int[list.size()];
        for (int i = 0; i < got.length; i++) {
            got[i] = answerOfStore(list.get(i), row);
            if (list.get(i).endedAt != 0 && got[i] != list.get(i).answer) {
                return;
            }
        }
        explanations.add(List.copyOf(list));
        outcomes.add(row);
        for (int i = 0; i < got.length; i++) {
            if (list.get(i).isOpen()) {
                answers.get(list.get(i).worker).add(got[i]);
            }
        }
    }

    private int answerOfStore(Call call, List<Integer> row) {
        if (call.put) {
            return row.size() < capacity && row.add(call.value) ? 1 : 0;
        }
        if (row.isEmpty()) {
            return -1;
        }
        boolean fromBack = kind == 1 || kind == 2 && call.worker == 0;
        return row.remove(fromBack ? row.size() - 1 : 0);
    }
}

import java.util.ArrayDeque;
import java.util.ArrayList;
import java.util.Collections;
import java.util.Deque;
import java.util.HashMap;
import java.util.HashSet;
import java.util.List;
import java.util.Map;
import java.util.Set;
import java.util.TreeMap;

/**
 * What the document says, written once more and as literally as can be, with the Java library:
 * slow, and with other ways of holding and searching than the program's.
 */
final class Model {
    static final int NONE = Integer.MIN_VALUE;

    record Rect(int top, int left, int bottom, int right) {
        int cells() {
            return (bottom - top + 1) * (right - left + 1);
        }

        boolean has(int row, int column) {
            return row >= top && row <= bottom && column >= left && column <= right;
        }

        boolean has(int cell) {
            return has(cell / 7, cell % 7);
        }

        boolean meets(Rect other) {
            return top <= other.bottom && other.top <= bottom && left <= other.right && other.left <= right;
        }

        int corner() {
            return 7 * top + left;
        }

        int code() {
            return 42 * corner() + 7 * bottom + right;
        }

        boolean isRectangle() {
            return top >= 0 && top <= bottom && bottom <= 5 && left >= 0 && left <= right && right <= 6;
        }

        int compare(Rect other) {
            if (top != other.top) {
                return Integer.compare(top, other.top);
            }
            if (left != other.left) {
                return Integer.compare(left, other.left);
            }
            return Integer.compare(bottom, other.bottom);
        }
    }

    record State(Map<Integer, Integer> numbers, Set<Rect> fields) {
        State copy() {
            return new State(new HashMap<>(numbers), new HashSet<>(fields));
        }

        int number(int cell) {
            return numbers.getOrDefault(cell, 0);
        }

        Rect fieldOf(int cell) {
            for (Rect field : fields) {
                if (field.has(cell)) {
                    return field;
                }
            }
            return null;
        }
    }

    private State state = new State(new HashMap<>(), new HashSet<>());
    private final Deque<State> saved = new ArrayDeque<>();
    private final State[] slots = new State[2];
    private final StringBuilder buffer = new StringBuilder();

    State state() {
        return state;
    }

    // ---- calls that change something

    int write(int row, int column, int number) {
        int cell = cell(row, column);
        if (number < 0 || number > 20) {
            throw new IllegalArgumentException();
        }
        if (state.fieldOf(cell) != null) {
            throw new IllegalStateException();
        }
        save();
        int before = state.number(cell);
        put(cell, number);
        return before;
    }

    private void put(int cell, int number) {
        if (number == 0) {
            state.numbers.remove(cell);
        } else {
            state.numbers.put(cell, number);
        }
    }

    int make(int seed) {
        if (seed < 0 || seed > 999999) {
            throw new IllegalArgumentException();
        }
        save();
        state = new State(new HashMap<>(), new HashSet<>());
        long[] x = {seed};
        List<Rect> list = new ArrayList<>();
        list.add(new Rect(0, 0, 5, 6));
        while (true) {
            int at = 0;
            while (at < list.size() && list.get(at).cells() <= 6) {
                at++;
            }
            if (at == list.size()) {
                break;
            }
            Rect r = list.get(at);
            int rows = r.bottom - r.top + 1;
            int columns = r.right - r.left + 1;
            if (rows > columns) {
                int cut = r.top + 1 + drawn(x, rows - 1);
                list.set(at, new Rect(r.top, r.left, cut - 1, r.right));
                list.add(new Rect(cut, r.left, r.bottom, r.right));
            } else {
                int cut = r.left + 1 + drawn(x, columns - 1);
                list.set(at, new Rect(r.top, r.left, r.bottom, cut - 1));
                list.add(new Rect(r.top, cut, r.bottom, r.right));
            }
        }
        for (Rect r : list) {
            int place = drawn(x, r.cells());
            for (int cell = 0; cell < 42; cell++) {
                if (r.has(cell) && place-- == 0) {
                    put(cell, r.cells());
                }
            }
        }
        return state.numbers.size();
    }

    private static int drawn(long[] x, int below) {
        x[0] = (x[0] * 1103515245L + 12345L) % 2147483648L;
        return (int) (x[0] / 65536 % below);
    }

    int draw(int top, int left, int bottom, int right) {
        if (reasonAgainst(top, left, bottom, right) != 0) {
            throw new IllegalStateException();
        }
        save();
        state.fields.add(new Rect(top, left, bottom, right));
        return 42 - openCells();
    }

    int erase(int row, int column) {
        Rect field = field(row, column);
        save();
        state.fields.remove(field);
        return field.cells();
    }

    int eraseAll() {
        save();
        int count = state.fields.size();
        state.fields.clear();
        return count;
    }

    int settle() {
        Steps steps = stepsWithoutContradiction();
        save();
        int count = 0;
        for (List<Rect> left : steps.left.values()) {
            if (left.size() == 1) {
                state.fields.add(left.get(0));
                count++;
            }
        }
        return count;
    }

    int finish() {
        Set<Rect> way = firstWay(state);
        save();
        int count = way.size() - state.fields.size();
        state = new State(state.numbers, new HashSet<>(way));
        return count;
    }

    int append(int code) {
        if (code < 33 || code > 126) {
            throw new IllegalArgumentException();
        }
        if (buffer.length() == 60) {
            throw new IllegalStateException();
        }
        buffer.append((char) code);
        return buffer.length();
    }

    int clearBuffer() {
        int length = buffer.length();
        buffer.setLength(0);
        return length;
    }

    int firstError() {
        int good = 0;
        while (good < buffer.length() && buffer.substring(0, good + 1).matches("[.1-9a-k]{1,7}")) {
            good++;
        }
        return good;
    }

    int writeRow(int row) {
        if (row < 0 || row > 5) {
            throw new IndexOutOfBoundsException();
        }
        if (!buffer.toString().matches("[.1-9a-k]{7}")) {
            throw new IllegalArgumentException();
        }
        for (int column = 0; column < 7; column++) {
            if (state.fieldOf(7 * row + column) != null) {
                throw new IllegalStateException();
            }
        }
        save();
        int count = 0;
        for (int column = 0; column < 7; column++) {
            int number = ".123456789abcdefghijk".indexOf(buffer.charAt(column));
            put(7 * row + column, number);
            count += number == 0 ? 0 : 1;
        }
        buffer.setLength(0);
        return count;
    }

    void keep(int slot) {
        checkSlot(slot);
        slots[slot] = state.copy();
    }

    void goBack(int slot) {
        checkSlot(slot);
        if (slots[slot] == null) {
            throw new IllegalStateException();
        }
        save();
        state = slots[slot].copy();
    }

    void undo() {
        if (saved.isEmpty()) {
            throw new IllegalStateException();
        }
        state = saved.removeLast();
    }

    private void save() {
        saved.addLast(state.copy());
        if (saved.size() > 6) {
            saved.removeFirst();
        }
    }

    private static void checkSlot(int slot) {
        if (slot != 0 && slot != 1) {
            throw new IllegalArgumentException();
        }
    }

    private static int cell(int row, int column) {
        if (row < 0 || row > 5 || column < 0 || column > 6) {
            throw new IndexOutOfBoundsException();
        }
        return 7 * row + column;
    }

    private Rect field(int row, int column) {
        Rect field = state.fieldOf(cell(row, column));
        if (field == null) {
            throw new IllegalStateException();
        }
        return field;
    }

    // ---- calls that tell something

    int savedStates() {
        return saved.size();
    }

    int numberAt(int row, int column) {
        return state.number(cell(row, column));
    }

    int numbers() {
        return state.numbers.size();
    }

    int sum() {
        return state.numbers.values().stream().mapToInt(n -> n).sum();
    }

    boolean isInField(int row, int column) {
        return state.fieldOf(cell(row, column)) != null;
    }

    int fieldSize(int row, int column) {
        return field(row, column).cells();
    }

    int cornerOf(int row, int column) {
        return field(row, column).corner();
    }

    int fields() {
        return state.fields.size();
    }

    int openCells() {
        return 42 - state.fields.stream().mapToInt(Rect::cells).sum();
    }

    boolean isFull() {
        return openCells() == 0;
    }

    int reasonAgainst(int top, int left, int bottom, int right) {
        Rect r = new Rect(top, left, bottom, right);
        if (!r.isRectangle()) {
            throw new IndexOutOfBoundsException();
        }
        return reason(state, r);
    }

    private static int reason(State state, Rect r) {
        if (state.fields.stream().anyMatch(f -> f.meets(r))) {
            return 1;
        }
        List<Integer> inside = state.numbers.keySet().stream().filter(r::has).toList();
        if (inside.isEmpty()) {
            return 2;
        }
        if (inside.size() > 1) {
            return 3;
        }
        return state.number(inside.get(0)) == r.cells() ? 0 : 4;
    }

    /** By the cell of each number that is in no field, in order, the rectangles that are possible for it, in order. */
    private static Map<Integer, List<Rect>> possibleOf(State state) {
        Map<Integer, List<Rect>> known = KNOWN_POSSIBLE.get(state);
        if (known == null) {
            known = listed(state);
            if (KNOWN_POSSIBLE.size() > 20) {
                KNOWN_POSSIBLE.clear();
            }
            KNOWN_POSSIBLE.put(state.copy(), known);
        }
        return known;
    }

    private static final Map<State, Map<Integer, List<Rect>>> KNOWN_POSSIBLE = new HashMap<>();

    private static Map<Integer, List<Rect>> listed(State state) {
        Map<Integer, List<Rect>> all = new TreeMap<>();
        for (int cell : state.numbers.keySet()) {
            if (state.fieldOf(cell) == null) {
                List<Rect> own = new ArrayList<>();
                for (int top = 0; top <= cell / 7; top++) {
                    for (int left = 0; left <= cell % 7; left++) {
                        for (int bottom = cell / 7; bottom < 6; bottom++) {
                            for (int right = cell % 7; right < 7; right++) {
                                Rect r = new Rect(top, left, bottom, right);
                                if (reason(state, r) == 0) {
                                    own.add(r);
                                }
                            }
                        }
                    }
                }
                all.put(cell, own);
            }
        }
        return all;
    }

    private List<Rect> possibleRects() {
        List<Rect> all = new ArrayList<>();
        possibleOf(state).values().forEach(all::addAll);
        return all;
    }

    private List<Rect> own(int row, int column) {
        return possibleOf(state).getOrDefault(cell(row, column), List.of());
    }

    int possibleFor(int row, int column) {
        return own(row, column).size();
    }

    int possibleAt(int row, int column, int place) {
        List<Rect> own = own(row, column);
        if (place < 0 || place >= own.size()) {
            throw new IndexOutOfBoundsException();
        }
        return own.get(place).code();
    }

    int coveredBy(int row, int column) {
        int cell = cell(row, column);
        return (int) possibleRects().stream().filter(r -> r.has(cell)).count();
    }

    int claimedBy(int row, int column) {
        int cell = cell(row, column);
        return (int) possibleOf(state).values().stream().filter(l -> l.stream().anyMatch(r -> r.has(cell))).count();
    }

    int possible() {
        return possibleRects().size();
    }

    // ---- steps

    private final class Steps {
        Map<Integer, List<Rect>> left = possibleOf(state);
        int rounds = 0;

        Steps() {
            while (round()) {
                rounds++;
            }
        }

        private boolean round() {
            Map<Integer, List<Rect>> next = new TreeMap<>();
            boolean changed = false;
            List<Set<Integer>> over = new ArrayList<>();
            for (int cell = 0; cell < 42; cell++) {
                over.add(numbersOver(cell));
            }
            for (int number : left.keySet()) {
                List<Rect> stay = new ArrayList<>();
                for (Rect r : left.get(number)) {
                    if (isRuledOut(number, r, over)) {
                        changed = true;
                    } else {
                        stay.add(r);
                    }
                }
                next.put(number, stay);
            }
            left = next;
            return changed;
        }

        private boolean isRuledOut(int number, Rect r, List<Set<Integer>> over) {
            for (int cell = 0; cell < 42; cell++) {
                if (state.fieldOf(cell) == null && !r.has(cell) && over.get(cell).equals(Set.of(number))) {
                    return true;
                }
            }
            for (int other : left.keySet()) {
                if (other != number && needsCellOf(other, r)) {
                    return true;
                }
            }
            return false;
        }

        private Set<Integer> numbersOver(int cell) {
            Set<Integer> over = new HashSet<>();
            for (int number : left.keySet()) {
                if (left.get(number).stream().anyMatch(r -> r.has(cell))) {
                    over.add(number);
                }
            }
            return over;
        }

        private boolean needsCellOf(int other, Rect r) {
            List<Rect> rects = left.get(other);
            for (int cell = 0; cell < 42; cell++) {
                int c = cell;
                if (r.has(cell) && !rects.isEmpty() && rects.stream().allMatch(o -> o.has(c))) {
                    return true;
                }
            }
            return false;
        }

        boolean isContradiction() {
            if (left.values().stream().anyMatch(List::isEmpty)) {
                return true;
            }
            for (int cell = 0; cell < 42; cell++) {
                if (state.fieldOf(cell) == null && numbersOver(cell).isEmpty()) {
                    return true;
                }
            }
            return false;
        }
    }

    private Steps stepsWithoutContradiction() {
        Steps steps = new Steps();
        if (steps.isContradiction()) {
            throw new IllegalStateException();
        }
        return steps;
    }

    int rounds() {
        return new Steps().rounds;
    }

    int leftInTheEnd() {
        return new Steps().left.values().stream().mapToInt(List::size).sum();
    }

    int leftFor(int row, int column) {
        return new Steps().left.getOrDefault(cell(row, column), List.of()).size();
    }

    boolean isContradiction() {
        return new Steps().isContradiction();
    }

    int certain() {
        return (int) stepsWithoutContradiction().left.values().stream().filter(l -> l.size() == 1).count();
    }

    int hint() {
        for (Map.Entry<Integer, List<Rect>> entry : stepsWithoutContradiction().left.entrySet()) {
            if (entry.getValue().size() == 1) {
                return entry.getKey();
            }
        }
        throw new IllegalStateException();
    }

    // ---- ways: all of them, or the first ones that the search meets if they are many

    private static final int MANY = 400;

    private static final Map<State, List<Set<Rect>>> KNOWN = new HashMap<>();

    /** Searched once for a state, for the search takes long. */
    private static List<Set<Rect>> waysOf(State state) {
        List<Set<Rect>> known = KNOWN.get(state);
        if (known == null) {
            known = searched(state);
            if (KNOWN.size() > 20) {
                KNOWN.clear();
            }
            KNOWN.put(state.copy(), known);
        }
        return known;
    }

    private static List<Set<Rect>> searched(State state) {
        List<Set<Rect>> ways = new ArrayList<>();
        Map<Integer, List<Rect>> possible = possibleOf(state);
        int open = 42 - state.fields.stream().mapToInt(Rect::cells).sum();
        if (possible.keySet().stream().mapToInt(state::number).sum() == open) {
            search(new ArrayList<>(possible.values()), new ArrayList<>(state.fields), ways);
        }
        return ways;
    }

    private static void search(List<List<Rect>> numbersLeft, List<Rect> chosen, List<Set<Rect>> ways) {
        if (ways.size() >= MANY) {
            return;
        }
        if (numbersLeft.isEmpty()) {
            ways.add(new HashSet<>(chosen));
            return;
        }
        List<List<Rect>> rest = new ArrayList<>(numbersLeft);
        List<Rect> fewest = Collections.min(rest, (a, b) -> Integer.compare(a.size(), b.size()));
        rest.remove(fewest);
        for (Rect r : fewest) {
            List<List<Rect>> next = new ArrayList<>();
            for (List<Rect> other : rest) {
                next.add(other.stream().filter(o -> !o.meets(r)).toList());
            }
            chosen.add(r);
            search(next, chosen, ways);
            chosen.remove(chosen.size() - 1);
        }
    }

    private static Rect in(Set<Rect> way, int cell) {
        return way.stream().filter(r -> r.has(cell)).findFirst().orElseThrow();
    }

    private static int compareWays(Set<Rect> a, Set<Rect> b) {
        for (int cell = 0; cell < 42; cell++) {
            Rect one = in(a, cell);
            Rect other = in(b, cell);
            if (!one.equals(other)) {
                return one.compare(other);
            }
        }
        return 0;
    }

    private static Set<Rect> firstWay(State state) {
        List<Set<Rect>> ways = waysOf(state);
        if (ways.isEmpty()) {
            throw new IllegalStateException();
        }
        return Collections.min(ways, Model::compareWays);
    }

    /** Whether the board has so many ways that this model does not see all of them. */
    boolean hasTooManyWays() {
        return waysOf(state).size() >= MANY || waysOf(new State(state.numbers, new HashSet<>())).size() >= MANY;
    }

    /** All of them, if they are not too many. */
    int allWays() {
        return waysOf(state).size();
    }

    int ways() {
        return Math.min(50, waysOf(state).size());
    }

    boolean isUnique() {
        return waysOf(state).size() == 1;
    }

    int sizeInFirst(int row, int column) {
        int cell = cell(row, column);
        return in(firstWay(state), cell).cells();
    }

    int cornerInFirst(int row, int column) {
        int cell = cell(row, column);
        return in(firstWay(state), cell).corner();
    }

    int strayFields() {
        Set<Rect> way = firstWay(new State(state.numbers, new HashSet<>()));
        return (int) state.fields.stream().filter(f -> !way.contains(f)).count();
    }

    double meanPossible() {
        Map<Integer, List<Rect>> possible = possibleOf(state);
        return possible.isEmpty() ? 0.0 : (double) possible() / possible.size();
    }

    long digest() {
        List<Long> values = new ArrayList<>();
        Map<Integer, List<Rect>> possible = possibleOf(state);
        List<Rect> rects = possibleRects();
        Steps steps = new Steps();
        for (int cell = 0; cell < 42; cell++) {
            int c = cell;
            Rect field = state.fieldOf(cell);
            values.add((long) state.number(cell));
            values.add(field == null ? 0L : field.cells() + 1L);
            values.add(field == null ? 0L : field.corner() + 1L);
            List<Rect> own = possible.getOrDefault(cell, List.of());
            values.add((long) own.size());
            own.forEach(r -> values.add((long) r.code()));
            values.add(rects.stream().filter(r -> r.has(c)).count());
            values.add(possible.values().stream().filter(l -> l.stream().anyMatch(r -> r.has(c))).count());
            values.add((long) steps.left.getOrDefault(cell, List.of()).size());
        }
        values.add((long) numbers());
        values.add((long) sum());
        values.add((long) fields());
        values.add((long) openCells());
        values.add((long) rects.size());
        values.add((long) steps.rounds);
        values.add((long) steps.left.values().stream().mapToInt(List::size).sum());
        values.add(steps.isContradiction() ? 1L : 0L);
        values.add(orNone(Check.answerOf(this::certain)));
        values.add(orNone(Check.answerOf(this::hint)));
        addWays(values);
        values.add((long) savedStates());
        values.add(Double.doubleToLongBits(meanPossible()));
        values.add(slots[0] == null ? 0L : 1L);
        values.add(slots[1] == null ? 0L : 1L);
        values.add((long) buffer.length());
        buffer.chars().forEach(code -> values.add((long) code));
        long hash = 4421;
        for (long v : values) {
            hash = 31 * hash + v;
        }
        return hash;
    }

    private void addWays(List<Long> values) {
        long ways = ways();
        values.add(ways);
        values.add(ways);
        if (ways != 0) {
            Set<Rect> way = firstWay(state);
            for (int cell = 0; cell < 42; cell++) {
                values.add((long) in(way, cell).cells());
                values.add((long) in(way, cell).corner());
            }
        }
    }

    private static long orNone(String answer) {
        return answer.startsWith("throws") ? 0L : Long.parseLong(answer) + 1;
    }
}

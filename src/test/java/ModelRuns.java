import java.util.ArrayList;
import java.util.List;
import java.util.Random;

/** Random runs of calls, the program's answers beside the model's; the seeds are fixed: each run is the same. */
public final class ModelRuns {
    private static final int RUNS = 60;
    private static final int CALLS = 120;

    private final Random random;
    private final PaddockFields x = new PaddockFields();
    private final Model m = new Model();
    private final String run;

    private ModelRuns(int seed) {
        random = new Random(seed);
        run = "run " + seed + ": ";
    }

    public static void main(String[] args) {
        for (int seed = 0; seed < RUNS; seed++) {
            new ModelRuns(seed).go();
        }
        for (int seed = 0; seed < 400; seed++) {
            compareMade(seed < 200 ? seed : seed * 2503 - 2);
        }
        Check.end("ModelRuns");
    }

    private static void compareMade(int seed) {
        PaddockFields made = new PaddockFields();
        Model model = new Model();
        Check.due("make(" + seed + ")", Check.answerOf(() -> model.make(seed)), () -> made.make(seed));
        for (int row = 0; row < 6; row++) {
            for (int column = 0; column < 7; column++) {
                int r = row;
                int c = column;
                Check.due("numberAt after make(" + seed + ")", model.numberAt(r, c), () -> made.numberAt(r, c));
            }
        }
    }

    private void go() {
        for (int call = 0; call < CALLS; call++) {
            change();
            if (!m.hasTooManyWays()) {
                Check.due(run + "digest", m.digest(), x::digest);
                look();
            }
        }
    }

    private int below(int n) {
        return random.nextInt(n);
    }

    /** Mostly in range, now and then one outside. */
    private int near(int n) {
        return below(12) == 0 ? (below(2) == 0 ? -1 - below(2) : n + below(3)) : below(n);
    }

    private void change() {
        switch (below(20)) {
            case 0 -> makeNumbers();
            case 1, 2, 3 -> writeNumber();
            case 4, 5, 6 -> drawPossible();
            case 7 -> drawAny();
            case 8, 9 -> eraseField();
            case 10 -> Check.due(run + "eraseAll", m.eraseAll(), x::eraseAll);
            case 11 -> Check.due(run + "settle", Check.answerOf(m::settle), x::settle);
            case 12 -> finishBoard();
            case 13, 14 -> enterRow();
            case 15 -> appendAny();
            case 16 -> keepSlot();
            case 17 -> goBackToSlot();
            case 18 -> Check.dueDone(run + "undo", undone(), x::undo);
            default -> shiftNumber();
        }
    }

    private String undone() {
        return Check.answerOf(() -> {
            m.undo();
            return "done";
        });
    }

    private void makeNumbers() {
        int seed = below(8) == 0 ? 999999 + below(2) : below(9) - 1 + below(2) * below(999990);
        Check.due(run + "make(" + seed + ")", Check.answerOf(() -> m.make(seed)), () -> x.make(seed));
    }

    private void writeNumber() {
        int row = near(6);
        int column = near(7);
        int number = below(3) == 0 ? near(21) : below(7);
        String call = run + "write(" + row + ", " + column + ", " + number + ")";
        Check.due(call, Check.answerOf(() -> m.write(row, column, number)), () -> x.write(row, column, number));
    }

    /** Takes 1 away at one cell and gives it to another, so that boards with and without ways come up. */
    private void shiftNumber() {
        int from = below(42);
        int to = below(42);
        int given = m.state().number(from);
        int got = m.state().number(to);
        if (given > 0 && got < 20 && from != to) {
            writeAt(from, given - 1);
            writeAt(to, got + 1);
        }
    }

    private void writeAt(int cell, int number) {
        String want = Check.answerOf(() -> m.write(cell / 7, cell % 7, number));
        Check.due(run + "write at " + cell, want, () -> x.write(cell / 7, cell % 7, number));
    }

    private void drawPossible() {
        List<Integer> codes = new ArrayList<>();
        for (int cell = 0; cell < 42; cell++) {
            for (int place = 0; place < m.possibleFor(cell / 7, cell % 7); place++) {
                codes.add(m.possibleAt(cell / 7, cell % 7, place));
            }
        }
        if (!codes.isEmpty()) {
            int code = codes.get(below(codes.size()));
            drawAt(code / 42 / 7, code / 42 % 7, code % 42 / 7, code % 42 % 7);
        }
    }

    private void drawAny() {
        drawAt(near(6), near(7), near(6), near(7));
    }

    private void drawAt(int top, int left, int bottom, int right) {
        String place = "(" + top + ", " + left + ", " + bottom + ", " + right + ")";
        Check.due(run + "reasonAgainst" + place, Check.answerOf(() -> m.reasonAgainst(top, left, bottom, right)),
                () -> x.reasonAgainst(top, left, bottom, right));
        Check.due(run + "draw" + place, Check.answerOf(() -> m.draw(top, left, bottom, right)),
                () -> x.draw(top, left, bottom, right));
    }

    private void eraseField() {
        int row = near(6);
        int column = near(7);
        Check.due(run + "erase", Check.answerOf(() -> m.erase(row, column)), () -> x.erase(row, column));
    }

    private void finishBoard() {
        if (!m.hasTooManyWays() && below(3) == 0) {
            Check.due(run + "finish", Check.answerOf(m::finish), x::finish);
        }
    }

    private void enterRow() {
        if (below(4) != 0) {
            Check.due(run + "clearBuffer", m.clearBuffer(), x::clearBuffer);
        }
        int length = below(5) == 0 ? below(10) : 7;
        for (int i = 0; i < length; i++) {
            String signs = below(30) == 0 ? "0lAz/:" : below(3) == 0 ? ".123456789abcdefghijk" : "..1234";
            int code = signs.charAt(below(signs.length()));
            Check.due(run + "append", Check.answerOf(() -> m.append(code)), () -> x.append(code));
        }
        Check.due(run + "firstError", m.firstError(), x::firstError);
        int row = near(6);
        Check.due(run + "writeRow", Check.answerOf(() -> m.writeRow(row)), () -> x.writeRow(row));
    }

    private void appendAny() {
        int code = 30 + below(100);
        int times = below(6) == 0 ? 30 : 1;
        for (int i = 0; i < times; i++) {
            Check.due(run + "append", Check.answerOf(() -> m.append(code)), () -> x.append(code));
        }
    }

    private void keepSlot() {
        int slot = near(2);
        String want = Check.answerOf(() -> {
            m.keep(slot);
            return "done";
        });
        Check.dueDone(run + "keep", want, () -> x.keep(slot));
    }

    private void goBackToSlot() {
        int slot = near(2);
        String want = Check.answerOf(() -> {
            m.goBack(slot);
            return "done";
        });
        Check.dueDone(run + "goBack", want, () -> x.goBack(slot));
    }

    private void look() {
        int row = near(6);
        int column = near(7);
        int place = below(4) - 1;
        String at = "(" + row + ", " + column + ")";
        Check.due(run + "numberAt" + at, Check.answerOf(() -> m.numberAt(row, column)), () -> x.numberAt(row, column));
        Check.due(run + "isInField" + at, Check.answerOf(() -> m.isInField(row, column)),
                () -> x.isInField(row, column));
        Check.due(run + "fieldSize" + at, Check.answerOf(() -> m.fieldSize(row, column)),
                () -> x.fieldSize(row, column));
        Check.due(run + "cornerOf" + at, Check.answerOf(() -> m.cornerOf(row, column)), () -> x.cornerOf(row, column));
        Check.due(run + "possibleFor" + at, Check.answerOf(() -> m.possibleFor(row, column)),
                () -> x.possibleFor(row, column));
        Check.due(run + "possibleAt" + at + place, Check.answerOf(() -> m.possibleAt(row, column, place)),
                () -> x.possibleAt(row, column, place));
        Check.due(run + "coveredBy" + at, Check.answerOf(() -> m.coveredBy(row, column)),
                () -> x.coveredBy(row, column));
        Check.due(run + "claimedBy" + at, Check.answerOf(() -> m.claimedBy(row, column)),
                () -> x.claimedBy(row, column));
        Check.due(run + "leftFor" + at, Check.answerOf(() -> m.leftFor(row, column)), () -> x.leftFor(row, column));
        Check.due(run + "sizeInFirst" + at, Check.answerOf(() -> m.sizeInFirst(row, column)),
                () -> x.sizeInFirst(row, column));
        Check.due(run + "cornerInFirst" + at, Check.answerOf(() -> m.cornerInFirst(row, column)),
                () -> x.cornerInFirst(row, column));
        lookAtAll();
    }

    private void lookAtAll() {
        Check.due(run + "savedStates", m.savedStates(), x::savedStates);
        Check.due(run + "numbers", m.numbers(), x::numbers);
        Check.due(run + "sum", m.sum(), x::sum);
        Check.due(run + "fields", m.fields(), x::fields);
        Check.due(run + "openCells", m.openCells(), x::openCells);
        Check.due(run + "isFull", m.isFull(), x::isFull);
        Check.due(run + "possible", m.possible(), x::possible);
        Check.due(run + "rounds", m.rounds(), x::rounds);
        Check.due(run + "leftInTheEnd", m.leftInTheEnd(), x::leftInTheEnd);
        Check.due(run + "isContradiction", m.isContradiction(), x::isContradiction);
        Check.due(run + "certain", Check.answerOf(m::certain), x::certain);
        Check.due(run + "hint", Check.answerOf(m::hint), x::hint);
        Check.due(run + "waysByNumbers", m.ways(), x::waysByNumbers);
        Check.due(run + "waysByCells", m.ways(), x::waysByCells);
        Check.due(run + "isUnique", m.isUnique(), x::isUnique);
        Check.due(run + "strayFields", Check.answerOf(m::strayFields), x::strayFields);
        Check.due(run + "meanPossible", m.meanPossible(), x::meanPossible);
    }
}

/** For each promise ordinary calls, some edges, and wrong calls; the answers are written by hand. */
public final class PromiseTests {
    private static final String[] FORTY_EIGHT =
            {".2.2211", "2.2..2.", ".2.2..2", "2.213..", ".2.2.12", "2.3..2."};

    private PromiseTests() {
    }

    public static void main(String[] args) {
        newObject();
        writing();
        making();
        drawing();
        erasing();
        erasingAll();
        settling();
        finishing();
        appending();
        clearing();
        syntaxErrors();
        writingRows();
        keeping();
        goingBack();
        undoing();
        counting();
        fieldsOfCells();
        reasons();
        possibleRectangles();
        coveringRectangles();
        rounds();
        contradictions();
        certainFields();
        ways();
        firstWays();
        strayFields();
        means();
        digests();
        wrongCallsChangeNothing();
        Check.end("PromiseTests");
    }

    // ---- promise 1

    private static void newObject() {
        PaddockFields x = new PaddockFields();
        Check.due("1: no numbers", 0, x::numbers);
        Check.due("1: no fields", 0, x::fields);
        Check.due("1: no saved states", 0, x::savedStates);
        Check.due("1: an empty buffer", 0, x::clearBuffer);
        Check.dueDone("1: slot 0 is empty", Check.STATE, () -> x.goBack(0));
        Check.dueDone("1: slot 1 is empty", Check.STATE, () -> x.goBack(1));
        for (int cell = 0; cell < 42; cell++) {
            int c = cell;
            Check.due("1: cell " + c, 0, () -> x.numberAt(c / 7, c % 7));
            Check.due("1: cell " + c, false, () -> x.isInField(c / 7, c % 7));
        }
    }

    // ---- promise 2, 17

    private static void writing() {
        PaddockFields x = new PaddockFields();
        Check.due("2: a first number", 0, () -> x.write(0, 0, 5));
        Check.due("2: in place of one", 5, () -> x.write(0, 0, 20));
        Check.due("17: numberAt", 20, () -> x.numberAt(0, 0));
        Check.due("2: takes it away", 20, () -> x.write(0, 0, 0));
        Check.due("17: numberAt", 0, () -> x.numberAt(0, 0));
        Check.due("2: the last cell", 0, () -> x.write(5, 6, 1));
        Check.due("17: the last cell", 1, () -> x.numberAt(5, 6));
        Check.due("2: undoable", 4, x::savedStates);
        Check.due("2: changes nothing", 0, () -> x.write(3, 3, 0));
        Check.due("2: undoable, too", 5, x::savedStates);
        Check.due("2: number 21", Check.ARGUMENT, () -> x.write(0, 0, 21));
        Check.due("2: number -1", Check.ARGUMENT, () -> x.write(0, 0, -1));
        Check.due("2: row -1, ahead of the number", Check.BOUNDS, () -> x.write(-1, 0, 21));
        Check.due("2: row 6", Check.BOUNDS, () -> x.write(6, 0, 1));
        Check.due("2: column -1", Check.BOUNDS, () -> x.write(0, -1, 1));
        Check.due("2: column 7", Check.BOUNDS, () -> x.write(0, 7, 1));
        x.draw(5, 6, 5, 6);
        Check.due("2: in a field", Check.STATE, () -> x.write(5, 6, 1));
        Check.due("2: a wrong number, ahead of the field", Check.ARGUMENT, () -> x.write(5, 6, 99));
        Check.due("2: beside a field", 0, () -> x.write(5, 5, 1));
        Check.due("2: fields are not changed", 1, x::fields);
        for (int[] at : new int[][] {{-1, 0}, {6, 0}, {0, -1}, {0, 7}}) {
            Check.due("17: no such cell", Check.BOUNDS, () -> x.numberAt(at[0], at[1]));
        }
    }

    // ---- promise 3

    private static void making() {
        PaddockFields x = Boards.board(Boards.ONES);
        x.draw(0, 0, 0, 0);
        Check.due("3: seed 0", 9, () -> x.make(0));
        Check.due("3: numbers of seed 0", ".2...../....4.6/66.4.../......./.4....6/....4..", () -> Boards.rowsOf(x));
        Check.due("3: fields are taken away", 0, x::fields);
        Check.due("3: seed 999999", 10, () -> x.make(999999));
        Check.due("3: its numbers", "4..2.../......6/......./4..64.2/.46..../......4", () -> Boards.rowsOf(x));
        Check.due("3: seed 1", 10, () -> x.make(1));
        Check.due("3: its numbers", "3...4../6..43../....3../..3...6/......./..6...4", () -> Boards.rowsOf(x));
        Check.due("3: the sum", 42, x::sum);
        x.undo();
        Check.due("3: undoable", 10, x::numbers);
        x.undo();
        x.undo();
        Check.due("3: fields, too", 1, x::fields);
        x.make(1);
        Check.due("3: seed -1", Check.ARGUMENT, () -> x.make(-1));
        Check.due("3: seed 1000000", Check.ARGUMENT, () -> x.make(1000000));
        Check.due("3: nothing changed", 42, x::sum);
    }

    // ---- promise 4, 24, 25

    private static void drawing() {
        PaddockFields x = Boards.board(Boards.TWO_WAYS);
        Check.due("4: a field of two cells", 2, () -> x.draw(0, 0, 0, 1));
        Check.due("4: one of one cell", 3, () -> x.draw(5, 6, 5, 6));
        Check.due("24: openCells", 39, x::openCells);
        Check.due("4: a cell in a field", Check.STATE, () -> x.draw(0, 1, 1, 1));
        Check.due("4: drawn already", Check.STATE, () -> x.draw(5, 6, 5, 6));
        Check.due("4: no number", Check.STATE, () -> x.draw(1, 0, 1, 0));
        Check.due("4: two numbers", Check.STATE, () -> x.draw(1, 2, 1, 3));
        Check.due("4: another number", Check.STATE, () -> x.draw(1, 1, 1, 1));
        Check.due("4: row -1", Check.BOUNDS, () -> x.draw(-1, 0, 0, 0));
        Check.due("4: column -1", Check.BOUNDS, () -> x.draw(0, -1, 0, 0));
        Check.due("4: row 6", Check.BOUNDS, () -> x.draw(0, 0, 6, 0));
        Check.due("4: column 7", Check.BOUNDS, () -> x.draw(0, 0, 0, 7));
        Check.due("4: bottom above top", Check.BOUNDS, () -> x.draw(3, 0, 2, 0));
        Check.due("4: right ahead of left", Check.BOUNDS, () -> x.draw(0, 3, 0, 2));
        Check.due("4: nothing drawn by these", 2, x::fields);
        PaddockFields rows = Boards.board(Boards.SEVENS);
        for (int row = 0; row < 6; row++) {
            int r = row;
            Check.due("25: not full", false, rows::isFull);
            Check.due("4: a row", 7 * r + 7, () -> rows.draw(r, 0, r, 6));
        }
        Check.due("25: full", true, rows::isFull);
        Check.due("24: no open cells", 0, rows::openCells);
        rows.undo();
        Check.due("4: undoable", 5, rows::fields);
    }

    // ---- promise 5

    private static void erasing() {
        PaddockFields x = Boards.board(Boards.SEVENS);
        x.draw(2, 0, 2, 6);
        x.draw(3, 0, 3, 6);
        Check.due("5: by its last cell", 7, () -> x.erase(2, 6));
        Check.due("5: it is away", false, () -> x.isInField(2, 0));
        Check.due("5: another one stays", true, () -> x.isInField(3, 0));
        Check.due("5: numbers stay", 6, x::numbers);
        Check.due("5: in no field", Check.STATE, () -> x.erase(2, 6));
        Check.due("5: row 6", Check.BOUNDS, () -> x.erase(6, 0));
        Check.due("5: column 7", Check.BOUNDS, () -> x.erase(0, 7));
        Check.due("5: row -1", Check.BOUNDS, () -> x.erase(-1, 0));
        Check.due("5: column -1", Check.BOUNDS, () -> x.erase(0, -1));
        x.undo();
        Check.due("5: undoable", 2, x::fields);
        Check.due("5: by its first cell", 7, () -> x.erase(2, 0));
        x.draw(0, 0, 0, 6);
        Check.due("5: the first row", 7, () -> x.erase(0, 3));
        Check.due("5: its first cell, too", false, () -> x.isInField(0, 0));
    }

    // ---- promise 6

    private static void erasingAll() {
        PaddockFields x = Boards.board(Boards.SEVENS);
        Check.due("6: none", 0, x::eraseAll);
        x.draw(2, 0, 2, 6);
        x.draw(5, 0, 5, 6);
        Check.due("6: two", 2, x::eraseAll);
        Check.due("6: away", 42, x::openCells);
        Check.due("6: numbers stay", 6, x::numbers);
        x.undo();
        Check.due("6: undoable", 2, x::fields);
        PaddockFields y = new PaddockFields();
        y.eraseAll();
        Check.due("6: undoable, though nothing is changed", 1, y::savedStates);
    }

    // ---- promise 7

    private static void settling() {
        PaddockFields x = Boards.board(Boards.TWO_WAYS);
        Check.due("7: those that are certain", 38, x::settle);
        Check.due("7: they are drawn", 38, x::fields);
        Check.due("7: none more", 0, x::settle);
        x.undo();
        x.undo();
        Check.due("7: undoable", 0, x::fields);
        Check.due("7: after a round", 40, () -> {
            PaddockFields y = Boards.board(Boards.ONE_ROUND);
            return y.settle();
        });
        Check.due("7: the right one", 0, () -> {
            PaddockFields y = Boards.board(Boards.ONE_ROUND);
            y.settle();
            return y.cornerOf(0, 1);
        });
        PaddockFields hole = Boards.board(Boards.HOLE);
        Check.due("7: a contradiction", Check.STATE, hole::settle);
        Check.due("7: nothing drawn", 0, hole::fields);
        PaddockFields full = Boards.board(Boards.ONES);
        Check.due("7: all", 42, full::settle);
        full.undo();
        Check.due("7: undoable", 0, full::fields);
        full.settle();
        Check.due("7: none on a full board", 0, full::settle);
    }

    // ---- promise 8

    private static void finishing() {
        PaddockFields x = Boards.board(Boards.TWO_WAYS);
        x.draw(0, 2, 0, 2);
        Check.due("8: those that are not drawn", 39, x::finish);
        Check.due("8: full", true, x::isFull);
        Check.due("8: the first way", 0, () -> x.cornerOf(0, 1));
        Check.due("8: the first way", 7, () -> x.cornerOf(1, 1));
        Check.due("8: nothing more", 0, x::finish);
        x.undo();
        Check.due("8: undoable, though nothing is changed", 40, x::fields);
        x.undo();
        Check.due("8: undoable", 1, x::fields);
        x.draw(0, 0, 1, 0);
        Check.due("8: with what is drawn", 38, x::finish);
        Check.due("8: the other way", 1, () -> x.cornerOf(1, 1));
        PaddockFields hole = Boards.board(Boards.HOLE);
        Check.due("8: no way", Check.STATE, hole::finish);
        Check.due("8: nothing drawn", 0, hole::fields);
        Check.due("8: an empty board", Check.STATE, () -> new PaddockFields().finish());
    }

    // ---- promise 9

    private static void appending() {
        PaddockFields x = new PaddockFields();
        Check.due("9: code 33", 1, () -> x.append(33));
        Check.due("9: code 126", 2, () -> x.append(126));
        Check.due("9: code 32", Check.ARGUMENT, () -> x.append(32));
        Check.due("9: code 127", Check.ARGUMENT, () -> x.append(127));
        for (int i = 3; i <= 60; i++) {
            Check.due("9: length", i, () -> x.append('.'));
        }
        Check.due("9: 61 characters", Check.STATE, () -> x.append('.'));
        Check.due("9: a wrong code, ahead of that", Check.ARGUMENT, () -> x.append(0));
        Check.due("9: not undoable", 0, x::savedStates);
        Check.due("9: the length stays", 60, x::clearBuffer);
    }

    // ---- promise 10

    private static void clearing() {
        PaddockFields x = new PaddockFields();
        Boards.type(x, "0..");
        Check.due("10: three", 3, x::clearBuffer);
        Check.due("10: none", 0, x::clearBuffer);
        Check.due("10: the next one is the first", 1, () -> x.append('.'));
        Check.due("10: not undoable", 0, x::savedStates);
    }

    // ---- promise 11

    private static void syntaxErrors() {
        errorAt("", 0);
        errorAt(".", 1);
        errorAt("19ak.1", 6);
        errorAt("19ak.1b", 7);
        errorAt("19ak.1b.", 7);
        errorAt("..........", 7);
        errorAt("0", 0);
        errorAt(".0.....", 1);
        errorAt("..l....", 2);
        errorAt("...A...", 3);
        errorAt("1234`67", 4);
        errorAt("12345:7", 5);
        errorAt("123456/", 6);
        errorAt("......-.", 6);
    }

    private static void errorAt(String text, int place) {
        PaddockFields x = new PaddockFields();
        Boards.type(x, text);
        Check.due("11: firstError of " + text, place, x::firstError);
        Check.due("11: the buffer stays", text.length(), x::clearBuffer);
    }

    // ---- promise 12

    private static void writingRows() {
        PaddockFields x = new PaddockFields();
        Boards.type(x, "19ak.2.");
        Check.due("12: a row", 5, () -> x.writeRow(5));
        Check.due("12: 1", 1, () -> x.numberAt(5, 0));
        Check.due("12: 9", 9, () -> x.numberAt(5, 1));
        Check.due("12: a", 10, () -> x.numberAt(5, 2));
        Check.due("12: k", 20, () -> x.numberAt(5, 3));
        Check.due("12: .", 0, () -> x.numberAt(5, 4));
        Check.due("12: the buffer is cleared", 0, x::clearBuffer);
        Check.due("12: an empty buffer", Check.ARGUMENT, () -> x.writeRow(0));
        Boards.type(x, "......");
        Check.due("12: six characters", Check.ARGUMENT, () -> x.writeRow(0));
        Boards.type(x, ".");
        Check.due("12: in place of those that it has", 0, () -> x.writeRow(5));
        Check.due("12: no numbers", 0, x::numbers);
        x.undo();
        Check.due("12: undoable", 42, x::sum);
        Check.due("12: undo leaves the buffer", 0, x::clearBuffer);
        Boards.type(x, "........");
        Check.due("12: eight characters", Check.ARGUMENT, () -> x.writeRow(0));
        Check.due("12: row 6, ahead of the text", Check.BOUNDS, () -> x.writeRow(6));
        Check.due("12: row -1", Check.BOUNDS, () -> x.writeRow(-1));
        Check.due("12: the buffer stays", 8, x::clearBuffer);
        x.draw(5, 0, 5, 0);
        Boards.type(x, "..0....");
        Check.due("12: a wrong text, ahead of the field", Check.ARGUMENT, () -> x.writeRow(5));
        x.clearBuffer();
        Boards.type(x, "1.....1");
        Check.due("12: a cell in a field", Check.STATE, () -> x.writeRow(5));
        Check.due("12: another row", 2, () -> x.writeRow(4));
    }

    // ---- promise 13

    private static void keeping() {
        PaddockFields x = new PaddockFields();
        x.write(0, 0, 1);
        Check.dueDone("13: slot 0", "done", () -> x.keep(0));
        Check.due("13: not undoable", 1, x::savedStates);
        x.write(0, 0, 2);
        Check.dueDone("13: slot 1", "done", () -> x.keep(1));
        Check.dueDone("13: slot 2", Check.ARGUMENT, () -> x.keep(2));
        Check.dueDone("13: slot -1", Check.ARGUMENT, () -> x.keep(-1));
        x.goBack(0);
        Check.due("13: as it was in slot 0", 1, () -> x.numberAt(0, 0));
        x.goBack(1);
        Check.due("13: as it was in slot 1", 2, () -> x.numberAt(0, 0));
        x.write(0, 0, 3);
        x.keep(0);
        x.write(0, 0, 4);
        x.goBack(0);
        Check.due("13: in place of the one in the slot", 3, () -> x.numberAt(0, 0));
    }

    // ---- promise 14

    private static void goingBack() {
        PaddockFields x = Boards.board(Boards.TWO_WAYS);
        x.draw(0, 0, 1, 0);
        x.keep(1);
        Check.dueDone("14: an empty slot", Check.STATE, () -> x.goBack(0));
        Check.dueDone("14: slot 2", Check.ARGUMENT, () -> x.goBack(2));
        Check.dueDone("14: slot -1", Check.ARGUMENT, () -> x.goBack(-1));
        x.make(3);
        Boards.type(x, "..");
        Check.dueDone("14: goes back", "done", () -> x.goBack(1));
        Check.due("14: numbers", 40, x::numbers);
        Check.due("14: fields", 0, () -> x.cornerOf(1, 0));
        Check.due("14: the buffer stays", 2, x::clearBuffer);
        x.eraseAll();
        Check.dueDone("14: the snapshot stays", "done", () -> x.goBack(1));
        Check.due("14: fields", 1, x::fields);
        x.undo();
        Check.due("14: undoable", 0, x::fields);
        x.undo();
        Check.due("14: what was done before it", 1, x::fields);
    }

    // ---- promise 15, 16

    private static void undoing() {
        PaddockFields x = new PaddockFields();
        Check.dueDone("15: nothing saved", Check.STATE, x::undo);
        for (int i = 1; i <= 8; i++) {
            x.write(0, 0, i);
            Check.due("16: savedStates", Math.min(i, 6), x::savedStates);
        }
        x.keep(0);
        for (int i = 7; i >= 2; i--) {
            Check.dueDone("15: undo", "done", x::undo);
            Check.due("15: the number before", i, () -> x.numberAt(0, 0));
            Check.due("16: one is dropped", i - 2, x::savedStates);
        }
        Check.dueDone("15: the oldest ones were dropped", Check.STATE, x::undo);
        Check.due("15: nothing changed", 2, () -> x.numberAt(0, 0));
        x.goBack(0);
        Check.due("15: slots stay", 8, () -> x.numberAt(0, 0));
        x.draw(0, 0, 1, 3);
        x.undo();
        Check.due("15: fields, too", 0, x::fields);
    }

    // ---- promise 18, 19

    private static void counting() {
        PaddockFields x = new PaddockFields();
        Check.due("18: none", 0, x::numbers);
        Check.due("19: none", 0, x::sum);
        x.write(2, 3, 20);
        x.write(5, 6, 1);
        Check.due("18: two", 2, x::numbers);
        Check.due("19: 20 and 1", 21, x::sum);
        x.draw(5, 6, 5, 6);
        Check.due("18: in fields, too", 2, x::numbers);
        Check.due("19: in fields, too", 21, x::sum);
    }

    // ---- promise 20 to 23

    private static void fieldsOfCells() {
        PaddockFields x = new PaddockFields();
        x.write(2, 4, 6);
        x.draw(1, 3, 2, 5);
        Check.due("20: its first cell", true, () -> x.isInField(1, 3));
        Check.due("20: its last cell", true, () -> x.isInField(2, 5));
        Check.due("20: beside it", false, () -> x.isInField(2, 6));
        Check.due("20: above it", false, () -> x.isInField(0, 3));
        Check.due("21: by its first cell", 6, () -> x.fieldSize(1, 3));
        Check.due("21: by its last cell", 6, () -> x.fieldSize(2, 5));
        Check.due("22: by its first cell", 10, () -> x.cornerOf(1, 3));
        Check.due("22: by its last cell", 10, () -> x.cornerOf(2, 5));
        Check.due("21: in no field", Check.STATE, () -> x.fieldSize(2, 6));
        Check.due("22: in no field", Check.STATE, () -> x.cornerOf(2, 6));
        Check.due("23: one", 1, x::fields);
        x.write(0, 0, 1);
        x.draw(0, 0, 0, 0);
        Check.due("22: the first cell of all", 0, () -> x.cornerOf(0, 0));
        Check.due("23: two", 2, x::fields);
        for (int[] at : new int[][] {{-1, 0}, {6, 0}, {0, -1}, {0, 7}}) {
            Check.due("20: no such cell", Check.BOUNDS, () -> x.isInField(at[0], at[1]));
            Check.due("21: no such cell", Check.BOUNDS, () -> x.fieldSize(at[0], at[1]));
            Check.due("22: no such cell", Check.BOUNDS, () -> x.cornerOf(at[0], at[1]));
        }
    }

    // ---- promise 26

    private static void reasons() {
        PaddockFields x = new PaddockFields();
        x.write(0, 0, 2);
        x.write(0, 2, 2);
        x.write(5, 6, 4);
        Check.due("26: none", 0, () -> x.reasonAgainst(0, 0, 0, 1));
        Check.due("26: none", 0, () -> x.reasonAgainst(4, 5, 5, 6));
        Check.due("26: no number", 2, () -> x.reasonAgainst(1, 0, 2, 6));
        Check.due("26: two numbers, that make its cells", 3, () -> x.reasonAgainst(0, 0, 0, 2));
        Check.due("26: all numbers", 3, () -> x.reasonAgainst(0, 0, 5, 6));
        Check.due("26: a larger number", 4, () -> x.reasonAgainst(0, 0, 0, 0));
        Check.due("26: a smaller number", 4, () -> x.reasonAgainst(0, 0, 1, 1));
        x.draw(0, 0, 0, 1);
        Check.due("26: a field, ahead of no number", 1, () -> x.reasonAgainst(0, 1, 0, 1));
        Check.due("26: a field, ahead of two numbers", 1, () -> x.reasonAgainst(0, 0, 0, 2));
        Check.due("26: the field itself", 1, () -> x.reasonAgainst(0, 0, 0, 1));
        Check.due("26: top -1", Check.BOUNDS, () -> x.reasonAgainst(-1, 0, 0, 0));
        Check.due("26: left -1", Check.BOUNDS, () -> x.reasonAgainst(0, -1, 0, 0));
        Check.due("26: bottom 6", Check.BOUNDS, () -> x.reasonAgainst(0, 0, 6, 0));
        Check.due("26: right 7", Check.BOUNDS, () -> x.reasonAgainst(0, 0, 0, 7));
        Check.due("26: bottom above top", Check.BOUNDS, () -> x.reasonAgainst(1, 0, 0, 0));
        Check.due("26: right ahead of left", Check.BOUNDS, () -> x.reasonAgainst(0, 1, 0, 0));
    }

    // ---- promise 27, 28, 31

    private static void possibleRectangles() {
        PaddockFields x = Boards.board(Boards.TWO_WAYS);
        Check.due("31: all", 42, x::possible);
        Check.due("27: two", 2, () -> x.possibleFor(0, 0));
        Check.due("27: one", 1, () -> x.possibleFor(5, 6));
        Check.due("27: no number", 0, () -> x.possibleFor(0, 1));
        Check.due("28: by the last row", Boards.code(0, 0, 0, 1), () -> x.possibleAt(0, 0, 0));
        Check.due("28: by the last row", Boards.code(0, 0, 1, 0), () -> x.possibleAt(0, 0, 1));
        Check.due("28: by the first row", Boards.code(0, 1, 1, 1), () -> x.possibleAt(1, 1, 0));
        Check.due("28: by the first row", Boards.code(1, 0, 1, 1), () -> x.possibleAt(1, 1, 1));
        Check.due("28: the last cell", 1763, () -> x.possibleAt(5, 6, 0));
        Check.due("28: not so many", Check.BOUNDS, () -> x.possibleAt(0, 0, 2));
        Check.due("28: place -1", Check.BOUNDS, () -> x.possibleAt(0, 0, -1));
        Check.due("28: no number", Check.BOUNDS, () -> x.possibleAt(0, 1, 0));
        x.draw(0, 0, 0, 1);
        Check.due("27: in a field", 0, () -> x.possibleFor(0, 0));
        Check.due("28: in a field", Check.BOUNDS, () -> x.possibleAt(0, 0, 0));
        Check.due("27: beside a field", 1, () -> x.possibleFor(1, 1));
        Check.due("31: less", 39, x::possible);
        PaddockFields y = new PaddockFields();
        y.write(2, 3, 4);
        Check.due("27: a 4 in the midst", 11, () -> y.possibleFor(2, 3));
        Check.due("28: the first of 4x1", Boards.code(0, 3, 3, 3), () -> y.possibleAt(2, 3, 0));
        Check.due("28: 2x2, then 4x1 by the column", Boards.code(1, 2, 2, 3), () -> y.possibleAt(2, 3, 1));
        Check.due("28: 2x2 ahead of 4x1 by the last row", Boards.code(1, 3, 2, 4), () -> y.possibleAt(2, 3, 2));
        Check.due("28: 4x1 behind 2x2 by the last row", Boards.code(1, 3, 4, 3), () -> y.possibleAt(2, 3, 3));
        Check.due("28: 1x4", Boards.code(2, 0, 2, 3), () -> y.possibleAt(2, 3, 4));
        y.write(2, 3, 11);
        Check.due("27: 11 can't be", 0, () -> y.possibleFor(2, 3));
        y.write(2, 3, 20);
        Check.due("27: 9 of 4x5 and 8 of 5x4", 17, () -> y.possibleFor(2, 3));
        for (int[] at : new int[][] {{-1, 0}, {6, 0}, {0, -1}, {0, 7}}) {
            Check.due("27: no such cell", Check.BOUNDS, () -> y.possibleFor(at[0], at[1]));
            Check.due("28: no such cell", Check.BOUNDS, () -> y.possibleAt(at[0], at[1], 0));
        }
    }

    // ---- promise 29, 30

    private static void coveringRectangles() {
        PaddockFields x = Boards.board(Boards.TWO_WAYS);
        Check.due("29: both of one number", 2, () -> x.coveredBy(0, 0));
        Check.due("30: one number", 1, () -> x.claimedBy(0, 0));
        Check.due("29: one of each number", 2, () -> x.coveredBy(0, 1));
        Check.due("30: two numbers", 2, () -> x.claimedBy(0, 1));
        Check.due("29: the last cell", 1, () -> x.coveredBy(5, 6));
        x.draw(0, 0, 0, 1);
        Check.due("29: in a field", 0, () -> x.coveredBy(0, 1));
        Check.due("30: in a field", 0, () -> x.claimedBy(0, 1));
        Check.due("29: beside a field", 1, () -> x.coveredBy(1, 0));
        Check.due("30: beside a field", 1, () -> x.claimedBy(1, 0));
        Check.due("29: none", 0, () -> new PaddockFields().coveredBy(3, 3));
        Check.due("30: none", 0, () -> new PaddockFields().claimedBy(3, 3));
        for (int[] at : new int[][] {{-1, 0}, {6, 0}, {0, -1}, {0, 7}}) {
            Check.due("29: no such cell", Check.BOUNDS, () -> x.coveredBy(at[0], at[1]));
            Check.due("30: no such cell", Check.BOUNDS, () -> x.claimedBy(at[0], at[1]));
        }
    }

    // ---- promise 32 to 34

    private static void rounds() {
        PaddockFields x = Boards.board(Boards.ONE_ROUND);
        Check.due("32: one", 1, x::rounds);
        Check.due("31: possible is as it was", 41, x::possible);
        Check.due("33: one less", 40, x::leftInTheEnd);
        Check.due("34: one of two", 1, () -> x.leftFor(0, 1));
        Check.due("27: two", 2, () -> x.possibleFor(0, 1));
        Check.due("34: no number", 0, () -> x.leftFor(0, 0));
        x.draw(0, 0, 0, 1);
        Check.due("34: in a field", 0, () -> x.leftFor(0, 1));
        Check.due("32: none", 0, x::rounds);
        Check.due("33: without it", 39, x::leftInTheEnd);
        PaddockFields two = Boards.board(Boards.TWO_WAYS);
        Check.due("32: nothing can be ruled out", 0, two::rounds);
        Check.due("33: all", 42, two::leftInTheEnd);
        Check.due("34: both", 2, () -> two.leftFor(0, 0));
        // the outer 2 need their cells; what is left for the inner ones then needs a cell of the other, both ways
        PaddockFields needs = Boards.board("2.2.2.2", "1111111", "1111111", "1111111", "1111111", "1111111");
        Check.due("32: two", 2, needs::rounds);
        Check.due("33: the outer 2 and the ones", 37, needs::leftInTheEnd);
        Check.due("34: none", 0, () -> needs.leftFor(0, 2));
        Check.due("35: numbers without any", true, needs::isContradiction);
        // each of the outer cells is just one number's, and both give up the cell between them
        PaddockFields cut = Boards.board(".2.2.11", "1111111", "1111111", "1111111", "1111111", "1111111");
        Check.due("32: by what was left at the beginning", 1, cut::rounds);
        Check.due("33: one each", 39, cut::leftInTheEnd);
        Check.due("35: the cell between them", true, cut::isContradiction);
        Check.due("32: an empty board", 0, () -> new PaddockFields().rounds());
        for (int[] at : new int[][] {{-1, 0}, {6, 0}, {0, -1}, {0, 7}}) {
            Check.due("34: no such cell", Check.BOUNDS, () -> x.leftFor(at[0], at[1]));
        }
    }

    // ---- promise 35

    private static void contradictions() {
        Check.due("35: no number at all", true, () -> new PaddockFields().isContradiction());
        Check.due("35: a cell in none", true, () -> Boards.board(Boards.HOLE).isContradiction());
        Check.due("35: a number without any", true, () -> Boards.board(Boards.BLOCKED).isContradiction());
        Check.due("35: not with one way", false, () -> Boards.board(Boards.ONES).isContradiction());
        Check.due("35: not with two ways", false, () -> Boards.board(Boards.TWO_WAYS).isContradiction());
        PaddockFields full = Boards.board(Boards.ONES);
        full.finish();
        Check.due("35: not on a full board", false, full::isContradiction);
    }

    // ---- promise 36, 37

    private static void certainFields() {
        PaddockFields x = Boards.board(Boards.TWO_WAYS);
        Check.due("36: all but two", 38, x::certain);
        Check.due("37: the first one", 2, x::hint);
        x.settle();
        Check.due("36: the first cell's", 42, () -> Boards.board(Boards.ONES).certain());
        Check.due("37: the first cell's", 0, () -> Boards.board(Boards.ONES).hint());
        Check.due("36: none", 0, x::certain);
        Check.due("37: none", Check.STATE, x::hint);
        PaddockFields y = Boards.board(Boards.ONE_ROUND);
        Check.due("36: in the end", 40, y::certain);
        Check.due("37: the number's cell, not the corner", 1, y::hint);
        PaddockFields hole = Boards.board(Boards.HOLE);
        Check.due("36: a contradiction", Check.STATE, hole::certain);
        Check.due("37: a contradiction", Check.STATE, hole::hint);
        PaddockFields full = Boards.board(Boards.ONES);
        full.finish();
        Check.due("36: a full board", 0, full::certain);
        Check.due("37: a full board", Check.STATE, full::hint);
    }

    // ---- promise 38 to 40

    private static void ways() {
        waysOf("an empty board", new PaddockFields(), 0);
        waysOf("ones", Boards.board(Boards.ONES), 1);
        waysOf("sevens", Boards.board(Boards.SEVENS), 1);
        waysOf("two ways", Boards.board(Boards.TWO_WAYS), 2);
        waysOf("one round", Boards.board(Boards.ONE_ROUND), 1);
        waysOf("a hole", Boards.board(Boards.HOLE), 0);
        waysOf("a number without any", Boards.board(Boards.BLOCKED), 0);
        waysOf("a chess board", Boards.board(Boards.MANY), 50);
        waysOf("forty-eight", Boards.board(FORTY_EIGHT), 48);
        PaddockFields x = Boards.board(Boards.TWO_WAYS);
        x.draw(0, 0, 0, 1);
        waysOf("with a field among them", x, 1);
        x.finish();
        waysOf("a full board", x, 1);
    }

    private static void waysOf(String what, PaddockFields x, int ways) {
        Check.due("38: " + what, ways, x::waysByNumbers);
        Check.due("39: " + what, ways, x::waysByCells);
        Check.due("40: " + what, ways == 1, x::isUnique);
    }

    // ---- promise 41, 42

    private static void firstWays() {
        PaddockFields x = Boards.board(Boards.TWO_WAYS);
        Check.due("41: the first row's", 2, () -> x.sizeInFirst(0, 1));
        Check.due("42: the first row's", 0, () -> x.cornerInFirst(0, 1));
        Check.due("42: the second row's", 7, () -> x.cornerInFirst(1, 1));
        Check.due("41: the last cell", 1, () -> x.sizeInFirst(5, 6));
        Check.due("42: the last cell", 41, () -> x.cornerInFirst(5, 6));
        Check.due("41: nothing is drawn", 0, x::fields);
        x.draw(0, 0, 1, 0);
        Check.due("42: with what is drawn", 0, () -> x.cornerInFirst(1, 0));
        Check.due("42: with what is drawn", 1, () -> x.cornerInFirst(1, 1));
        PaddockFields chess = Boards.board(Boards.MANY);
        Check.due("42: the first of many ways", 0, () -> chess.cornerInFirst(0, 1));
        Check.due("42: the first of many ways", 2, () -> chess.cornerInFirst(0, 3));
        PaddockFields hole = Boards.board(Boards.HOLE);
        Check.due("41: no way", Check.STATE, () -> hole.sizeInFirst(0, 0));
        Check.due("42: no way", Check.STATE, () -> hole.cornerInFirst(0, 0));
        for (int[] at : new int[][] {{-1, 0}, {6, 0}, {0, -1}, {0, 7}}) {
            Check.due("41: no such cell", Check.BOUNDS, () -> hole.sizeInFirst(at[0], at[1]));
            Check.due("42: no such cell", Check.BOUNDS, () -> hole.cornerInFirst(at[0], at[1]));
        }
    }

    // ---- promise 43

    private static void strayFields() {
        PaddockFields x = Boards.board(Boards.TWO_WAYS);
        Check.due("43: no fields", 0, x::strayFields);
        x.draw(0, 0, 1, 0);
        Check.due("43: a stray one", 1, x::strayFields);
        x.finish();
        Check.due("43: two stray ones, of forty", 2, x::strayFields);
        x.eraseAll();
        x.finish();
        Check.due("43: the first way itself", 0, x::strayFields);
        Check.due("43: nothing is changed", 40, x::fields);
        Check.due("43: no way", Check.STATE, () -> Boards.board(Boards.HOLE).strayFields());
        // the 6 is drawn upright, where the first way has it lying, with the same corner and size
        PaddockFields six = Boards.board("6..1111", "...1111", "..31111", "1111111", "1111111", "1111111");
        six.draw(0, 0, 2, 1);
        Check.due("43: another shape", 1, six::strayFields);
        six.eraseAll();
        six.draw(0, 0, 1, 2);
        Check.due("43: the same shape", 0, six::strayFields);
        // what is drawn leaves no way, but without any fields there is one
        PaddockFields shut = Boards.board("2.2.111", "1111111", "1111111", "1111111", "1111111", "1111111");
        shut.draw(0, 1, 0, 2);
        Check.due("43: no way with it", Check.STATE, shut::finish);
        Check.due("43: one without", 1, shut::strayFields);
    }

    // ---- promise 44

    private static void means() {
        Check.due("44: without any", 0.0, () -> new PaddockFields().meanPossible());
        Check.due("44: one each", 1.0, () -> Boards.board(Boards.SEVENS).meanPossible());
        PaddockFields x = Boards.board(Boards.TWO_WAYS);
        Check.due("44: 42 of 40", 42.0 / 40.0, x::meanPossible);
        x.draw(0, 0, 0, 1);
        Check.due("44: 39 of 39", 1.0, x::meanPossible);
        x.undo();
        x.settle();
        Check.due("44: 4 of 2", 2.0, x::meanPossible);
        x.finish();
        Check.due("44: a full board", 0.0, x::meanPossible);
        PaddockFields y = new PaddockFields();
        y.write(0, 0, 11);
        Check.due("44: none possible", 0.0, y::meanPossible);
        y.write(5, 6, 1);
        Check.due("44: 1 of 2", 0.5, y::meanPossible);
    }

    // ---- promise 45

    private static long hash(long from, long... values) {
        long hash = from;
        for (long v : values) {
            hash = 31 * hash + v;
        }
        return hash;
    }

    private static long emptyHash(long saved, long slot0, long slot1, long... text) {
        long hash = hash(4421, new long[42 * 7]);
        hash = hash(hash, 0, 0, 0, 42, 0, 0, 0, 1, 0, 0, 0, 0, saved, 0, slot0, slot1, text.length);
        return hash(hash, text);
    }

    private static void digests() {
        PaddockFields x = new PaddockFields();
        Check.due("45: a new object", emptyHash(0, 0, 0), x::digest);
        x.append('.');
        x.append('x');
        Check.due("45: the buffer", emptyHash(0, 0, 0, '.', 'x'), x::digest);
        x.keep(1);
        Check.due("45: a slot", emptyHash(0, 0, 1, '.', 'x'), x::digest);
        x.write(0, 0, 0);
        Check.due("45: saved states", emptyHash(1, 0, 1, '.', 'x'), x::digest);
        Check.due("45: again", emptyHash(1, 0, 1, '.', 'x'), x::digest);
        digestOfRows();
        digestOfLastCell();
        digestOfNumber();
        Check.due("45: a mean of 2", true, () -> {
            Model m = new Model();
            PaddockFields y = new PaddockFields();
            m.write(0, 0, 2);
            y.write(0, 0, 2);
            return y.meanPossible() == 2.0 && m.digest() == y.digest();
        });
        Check.due("45: a mean of 17", true, () -> {
            Model m = new Model();
            PaddockFields y = new PaddockFields();
            m.write(2, 3, 20);
            y.write(2, 3, 20);
            return y.meanPossible() == 17.0 && m.digest() == y.digest();
        });
    }

    private static void digestOfRows() {
        PaddockFields x = Boards.board(Boards.SEVENS);
        x.draw(0, 0, 0, 6);
        long hash = 4421;
        for (int cell = 0; cell < 42; cell++) {
            int row = cell / 7;
            boolean number = x.numberAt(row, cell % 7) != 0;
            boolean open = row > 0;
            hash = hash(hash, number ? 7 : 0, open ? 0 : 7 + 1, open ? 0 : 0 + 1, number && open ? 1 : 0);
            if (number && open) {
                hash = hash(hash, 42L * 7 * row + 7L * row + 6);
            }
            hash = hash(hash, open ? 1 : 0, open ? 1 : 0, number && open ? 1 : 0);
        }
        int hint = 8;
        hash = hash(hash, 6, 42, 1, 35, 5, 0, 5, 0, 5 + 1, hint + 1, 1, 1);
        for (int cell = 0; cell < 42; cell++) {
            hash = hash(hash, 7, cell / 7 * 7L);
        }
        hash = hash(hash, 6, Double.doubleToLongBits(1.0), 0, 0, 0);
        Check.due("45: rows with a field", hash, x::digest);
    }

    private static void digestOfLastCell() {
        PaddockFields x = new PaddockFields();
        x.write(5, 6, 1);
        x.draw(5, 6, 5, 6);
        long hash = hash(4421, new long[41 * 7]);
        hash = hash(hash, 1, 1 + 1, 41 + 1, 0, 0, 0, 0);
        hash = hash(hash, 1, 1, 1, 41, 0, 0, 0, 1, 0, 0, 0, 0, 2, 0, 0, 0, 0);
        Check.due("45: size and corner of a field with 1 more", hash, x::digest);
        x.erase(5, 6);
        x.write(5, 6, 0);
        Check.due("45: in no field, 0 and 0", emptyHash(4, 0, 0), x::digest);
    }

    private static void digestOfNumber() {
        PaddockFields x = new PaddockFields();
        x.write(0, 0, 2);
        x.write(0, 6, 1);
        x.write(5, 6, 1);
        // each of the 2's neighbours is only in one of its rectangles: both are ruled out
        long hash = hash(4421, 2, 0, 0, 2, Boards.code(0, 0, 0, 1), Boards.code(0, 0, 1, 0), 2, 1, 0);
        for (int cell = 1; cell < 42; cell++) {
            boolean one = cell == 6 || cell == 41;
            boolean reached = one || cell == 1 || cell == 7;
            hash = hash(hash, one ? 1 : 0, 0, 0, one ? 1 : 0);
            hash = one ? hash(hash, 43L * cell) : hash;
            hash = hash(hash, reached ? 1 : 0, reached ? 1 : 0, one ? 1 : 0);
        }
        hash = hash(hash, 3, 4, 0, 42, 4, 1, 2, 1, 0, 0, 0, 0, 3, Double.doubleToLongBits(4.0 / 3.0), 0, 0, 0);
        Check.due("45: a mean with many bits", hash, x::digest);
    }

    // ---- exceptions

    private static void wrongCallsChangeNothing() {
        PaddockFields x = Boards.board(Boards.HOLE);
        x.draw(0, 0, 0, 0);
        Boards.type(x, "0");
        long before = x.digest();
        Check.answerOf(() -> x.write(0, 0, 1));
        Check.answerOf(() -> x.write(1, 1, 21));
        Check.answerOf(() -> x.make(-1));
        Check.answerOf(() -> x.draw(0, 0, 0, 0));
        Check.answerOf(() -> x.erase(1, 1));
        Check.answerOf(x::settle);
        Check.answerOf(x::finish);
        Check.answerOf(() -> x.append(127));
        Check.answerOf(() -> x.writeRow(3));
        Check.dueDone("keep", Check.ARGUMENT, () -> x.keep(2));
        Check.dueDone("goBack", Check.STATE, () -> x.goBack(1));
        Check.answerOf(x::strayFields);
        Check.due("wrong calls change nothing", before, x::digest);
    }
}

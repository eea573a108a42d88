/** For each promise the least and the most that it answers; what it refuses stands in RefusedCalls. */
public final class BoundaryTests {
    private static final String[] FORTY_NINE = {"2.212.1", ".2.2.21", "2.1.2.1", ".2.2.21", "1111111", ".2.2111"};
    /** Two ways of one part, five of each of two other ones. */
    private static final String[] FIFTY = {"2.2.12.", ".2.21.2", "1111111", "2.2.111", ".2.2111", "1111111"};
    private static final String[] FIFTY_ONE = {"1.2.211", ".2.2.21", "2.2.2.1", ".2.2.21", "1111111", "1111111"};
    /** The unique way has the largest field that there may be. */
    private static final String[] TWENTY = {"k.....c", ".......", ".......", ".......", ".......", "a......"};
    private static final String[] EMPTY = {".......", ".......", ".......", ".......", ".......", "......."};

    private interface Answer {
        Object at(int row, int column);
    }

    private BoundaryTests() {
    }

    public static void main(String[] args) {
        newObject();
        numbersBefore();
        makingOverFields();
        drawingAll();
        erasingAll();
        settling();
        finishing();
        buffer();
        rowsOfNumbers();
        countedFields();
        reasons();
        answersOfAllCells();
        coveredCells();
        leftRectangles();
        hints();
        ways();
        largestFields();
        strayFields();
        means();
        digests();
        Check.end("BoundaryTests");
    }

    private static PaddockFields full(String[] rows) {
        PaddockFields x = Boards.board(rows);
        x.finish();
        return x;
    }

    // ---- promise 1: "an empty board, with empty slots and an empty buffer"

    private static void newObject() {
        PaddockFields x = new PaddockFields();
        Check.due("1: open cells", 42, x::openCells);
        Check.due("1: sum", 0, x::sum);
        Check.due("1: possible", 0, x::possible);
        Check.due("1: firstError", 0, x::firstError);
        Check.due("1: each new object is one of its own", "5 0", () -> {
            PaddockFields other = new PaddockFields();
            x.write(0, 0, 5);
            x.keep(0);
            x.append('.');
            return x.numberAt(0, 0) + " " + other.clearBuffer();
        });
        Check.due("1: its board, too", 0, () -> new PaddockFields().numberAt(0, 0));
        Check.dueDone("1: its slots, too", Check.STATE, () -> new PaddockFields().goBack(0));
    }

    // ---- promise 2: "Returns the number before, 0 if there was none"

    private static void numbersBefore() {
        PaddockFields x = new PaddockFields();
        int before = 0;
        for (int number : new int[] {1, 20, 20, 0, 0, 20, 1, 1, 0}) {
            Check.due("2: before " + number, before, () -> x.write(5, 6, number));
            Check.due("2: " + number, number, () -> x.numberAt(5, 6));
            Check.due("2: the cell ahead of it has none", 0, () -> x.numberAt(5, 5));
            before = number;
        }
        PaddockFields fields = full(Boards.SEVENS);
        fields.erase(2, 0);
        Check.due("2: takes away the number of no field", 7, () -> fields.write(2, 2, 0));
        Check.due("2: fields are not changed", 5, fields::fields);
        Check.due("2: nor are open cells", 7, fields::openCells);
    }

    // ---- promise 3: "Takes all numbers and fields away"

    private static void makingOverFields() {
        PaddockFields x = full(Boards.ONES);
        Check.due("3: over 42 numbers and fields", 9, () -> x.make(0));
        Check.due("3: no fields", 0, x::fields);
        Check.due("3: its own numbers alone", ".2...../....4.6/66.4.../......./.4....6/....4..",
                () -> Boards.rowsOf(x));
        x.undo();
        Check.due("3: fields and numbers come back", "42 42", () -> x.fields() + " " + x.numbers());
    }

    // ---- promise 4: "Returns how many cells are in fields then"

    private static void drawingAll() {
        PaddockFields x = Boards.board(Boards.ONES);
        for (int cell = 41; cell >= 0; cell--) {
            int row = cell / 7;
            int column = cell % 7;
            Check.due("4: one more", 42 - cell, () -> x.draw(row, column, row, column));
            Check.due("23: fields", 42 - cell, x::fields);
            Check.due("24: openCells", cell, x::openCells);
            Check.due("25: isFull", cell == 0, x::isFull);
        }
        PaddockFields twenty = Boards.board(TWENTY);
        Check.due("4: the largest field", 20, () -> twenty.draw(0, 0, 3, 4));
        Check.due("4: the other ones", 32, () -> twenty.draw(0, 5, 5, 6));
        Check.due("4: all cells", 42, () -> twenty.draw(4, 0, 5, 4));
    }

    // ---- promise 6: "Returns how many there were"

    private static void erasingAll() {
        for (int drawn = 0; drawn <= 42; drawn += drawn == 1 ? 40 : 1) {
            PaddockFields x = Boards.board(Boards.ONES);
            for (int cell = 0; cell < drawn; cell++) {
                x.draw(cell / 7, cell % 7, cell / 7, cell % 7);
            }
            Check.due("6: all of " + drawn, drawn, x::eraseAll);
            Check.due("6: none are left of " + drawn, 0, x::fields);
            Check.due("6: no cell is left of " + drawn, 42, x::openCells);
            Check.due("6: none once more", 0, x::eraseAll);
            Check.due("6: numbers stay", 42, x::numbers);
        }
    }

    // ---- promise 7: "Returns how many are drawn"

    private static void settling() {
        PaddockFields x = Boards.board(Boards.ONES);
        Check.due("7: all", 42, x::settle);
        Check.due("7: none", 0, x::settle);
        x.erase(0, 0);
        x.erase(5, 6);
        Check.due("7: the first and the last one", 2, x::settle);
        x.erase(3, 3);
        Check.due("7: one", 1, x::settle);
        Check.due("7: it is drawn", true, x::isFull);
        PaddockFields many = Boards.board(Boards.MANY);
        Check.due("7: none is certain", 0, many::settle);
        Check.due("7: none is drawn", 0, many::fields);
    }

    // ---- promise 8: "all fields of the first way .. that are not drawn yet. Returns how many are drawn"

    private static void finishing() {
        PaddockFields x = Boards.board(Boards.ONES);
        Check.due("8: all", 42, x::finish);
        Check.due("8: none", 0, x::finish);
        x.erase(5, 6);
        Check.due("8: one", 1, x::finish);
        PaddockFields many = Boards.board(Boards.MANY);
        Check.due("8: the first of more than 50 ways", 21, many::finish);
        Check.due("8: its fields are the first way's", 0, many::strayFields);
        Check.due("8: all cells", true, many::isFull);
    }

    // ---- promise 9 to 11: "The buffer has at most 60 characters"

    private static void buffer() {
        PaddockFields x = new PaddockFields();
        for (int length = 1; length <= 60; length++) {
            Check.due("9: length", length, () -> x.append('k'));
            Check.due("11: no error, or the eighth", Math.min(length, 7), x::firstError);
        }
        Check.due("10: 60", 60, x::clearBuffer);
        Check.due("11: an empty buffer", 0, x::firstError);
        Check.due("10: 0", 0, x::clearBuffer);
        Check.due("9: the least code", 1, () -> x.append(33));
        Check.due("10: 1", 1, x::clearBuffer);
        Check.due("9: the highest code", 1, () -> x.append(126));
        Check.due("11: the first one is an error", 0, x::firstError);
    }

    // ---- promise 12: "in place of those that it has, and clears the buffer"

    private static void rowsOfNumbers() {
        for (int row = 0; row < 6; row++) {
            int r = row;
            PaddockFields x = Boards.board(Boards.ONES);
            Boards.type(x, "k9.a1.b");
            Check.due("12: row " + row, 5, () -> x.writeRow(r));
            for (int other = 0; other < 6; other++) {
                String due = other == row ? "k9.a1.b" : "1111111";
                int start = 8 * other;
                Check.due("12: row " + other, due, () -> Boards.rowsOf(x).substring(start, start + 7));
            }
            Check.due("12: the buffer is cleared", 0, x::clearBuffer);
            Boards.type(x, ".......");
            Check.due("12: none", 0, () -> x.writeRow(r));
            Check.due("12: 35 others", 35, x::numbers);
            Boards.type(x, "1111111");
            Check.due("12: seven", 7, () -> x.writeRow(r));
            x.undo();
            Check.due("12: the buffer stays clear by undo", 0, x::clearBuffer);
            x.undo();
            Check.due("12: undone twice", "k9.a1.b", () -> Boards.rowsOf(x).substring(8 * r, 8 * r + 7));
        }
    }

    // ---- promise 18 to 25

    private static void countedFields() {
        PaddockFields x = full(TWENTY);
        Check.due("18: numbers", 3, x::numbers);
        Check.due("19: sum", 42, x::sum);
        Check.due("23: fields", 3, x::fields);
        Check.due("24: no cell", 0, x::openCells);
        Check.due("21: of the first cell", 20, () -> x.fieldSize(0, 0));
        Check.due("21: of the last cell", 12, () -> x.fieldSize(5, 6));
        Check.due("22: of the last cell", 5, () -> x.cornerOf(5, 6));
        Check.due("22: of the one ahead of it", 28, () -> x.cornerOf(5, 4));
        Check.due("5: erased", 20, () -> x.erase(3, 4));
        Check.due("24: 20 cells", 20, x::openCells);
        Check.due("23: two fields", 2, x::fields);
        Check.due("25: not full", false, x::isFull);
    }

    // ---- promise 26: "1 a cell of it is in a field; 2 it has no number; 3 it has more than one; 4 .. another number"

    private static void reasons() {
        PaddockFields x = new PaddockFields();
        Check.due("26: no number in a cell", 2, () -> x.reasonAgainst(5, 6, 5, 6));
        Check.due("26: no number in all cells", 2, () -> x.reasonAgainst(0, 0, 5, 6));
        x.write(5, 6, 20);
        Check.due("26: another number in all cells", 4, () -> x.reasonAgainst(0, 0, 5, 6));
        Check.due("26: 20 in 20 cells", 0, () -> x.reasonAgainst(2, 2, 5, 6));
        Check.due("26: 20 in 18 cells", 4, () -> x.reasonAgainst(3, 1, 5, 6));
        Check.due("26: no number beside it", 2, () -> x.reasonAgainst(1, 2, 4, 6));
        x.write(2, 2, 1);
        Check.due("26: more than one, ahead of the number", 3, () -> x.reasonAgainst(2, 2, 5, 6));
        x.draw(2, 2, 2, 2);
        Check.due("26: a field, ahead of more than one", 1, () -> x.reasonAgainst(2, 2, 5, 6));
        Check.due("26: a field, in all cells", 1, () -> x.reasonAgainst(0, 0, 5, 6));
        x.write(5, 6, 0);
        Check.due("26: a field, ahead of no number besides", 1, () -> x.reasonAgainst(2, 2, 5, 6));
        x.write(1, 1, 6);
        Check.due("26: a field, ahead of another number", 1, () -> x.reasonAgainst(1, 1, 2, 2));
        Check.due("26: none, up to the field", 0, () -> x.reasonAgainst(0, 0, 1, 2));
    }

    // ---- promise 17, 20, 27, 29, 30, 34: the first and the last cell, a cell without a number, and one in a field

    private static void answersOfAllCells() {
        PaddockFields x = Boards.board(Boards.ONES);
        x.write(0, 0, 0);
        x.write(5, 6, 0);
        x.draw(0, 1, 0, 1);
        x.draw(5, 5, 5, 5);
        for (int cell = 0; cell < 42; cell++) {
            boolean none = cell == 0 || cell == 41;
            boolean drawn = cell == 1 || cell == 40;
            int open = none || drawn ? 0 : 1;
            answer("17: numberAt", none ? 0 : 1, cell, (row, column) -> x.numberAt(row, column));
            answer("20: isInField", drawn, cell, (row, column) -> x.isInField(row, column));
            answer("27: possibleFor", open, cell, (row, column) -> x.possibleFor(row, column));
            answer("28: possibleAt", open == 1 ? "" + 43 * cell : Check.BOUNDS, cell,
                    (row, column) -> x.possibleAt(row, column, 0));
            answer("29: coveredBy", open, cell, (row, column) -> x.coveredBy(row, column));
            answer("30: claimedBy", open, cell, (row, column) -> x.claimedBy(row, column));
            answer("34: leftFor", open, cell, (row, column) -> x.leftFor(row, column));
        }
    }

    private static void answer(String what, Object due, int cell, Answer call) {
        Check.due(what + " of cell " + cell, due, () -> call.at(cell / 7, cell % 7));
    }

    // ---- promise 29, 30: "how many rectangles .. have a cell in them", "how many numbers have a rectangle .."

    private static void coveredCells() {
        PaddockFields x = new PaddockFields();
        int[][] around = {{2, 3}, {3, 2}, {3, 4}, {4, 3}};
        for (int i = 0; i < 4; i++) {
            int numbers = i;
            Check.due("30: numbers around", numbers, () -> x.claimedBy(3, 3));
            Check.due("29: rectangles of them", numbers, () -> x.coveredBy(3, 3));
            x.write(around[i][0], around[i][1], 2);
        }
        Check.due("30: four numbers", 4, () -> x.claimedBy(3, 3));
        Check.due("29: its own alone have a number", 4, () -> x.coveredBy(2, 3));
        Check.due("30: its own alone has a number", 1, () -> x.claimedBy(2, 3));
        x.draw(3, 3, 3, 4);
        Check.due("29: 0 in a field", 0, () -> x.coveredBy(3, 3));
        Check.due("30: 0 in a field", 0, () -> x.claimedBy(3, 3));
        Check.due("29: one less beside it", 3, () -> x.coveredBy(2, 3));
        PaddockFields six = new PaddockFields();
        six.write(0, 0, 6);
        Check.due("29: four of one number", 4, () -> six.coveredBy(0, 0));
        Check.due("30: one number", 1, () -> six.claimedBy(0, 0));
        Check.due("29: three of them", 3, () -> six.coveredBy(0, 1));
        Check.due("29: the end of one", 1, () -> six.coveredBy(0, 5));
        Check.due("29: behind it", 0, () -> six.coveredBy(0, 6));
        Check.due("30: behind it", 0, () -> six.claimedBy(0, 6));
        Check.due("29: the lower end of one", 1, () -> six.coveredBy(5, 0));
        Check.due("29: beside it", 0, () -> six.coveredBy(5, 1));
    }

    // ---- promise 31 to 34: "possible" is as it is, "left" as far as rounds come

    private static void leftRectangles() {
        PaddockFields x = Boards.board(Boards.ONE_ROUND);
        Check.due("31: of 40 numbers", 41, x::possible);
        Check.due("33: one less", 40, x::leftInTheEnd);
        Check.due("34: one of two", 1, () -> x.leftFor(0, 1));
        x.write(0, 0, 1);
        Check.due("31: with a number in the one that was left", 41, x::possible);
        Check.due("34: both need the same cell", 0, () -> x.leftFor(0, 1) + x.leftFor(0, 3));
        Check.due("33: the ones", 39, x::leftInTheEnd);
        Check.due("27: one was possible", 1, () -> x.possibleFor(0, 1));
        x.draw(0, 2, 0, 3);
        Check.due("34: none is possible", 0, () -> x.leftFor(0, 1));
        Check.due("31: the ones", 39, x::possible);
        Check.due("32: no round", 0, x::rounds);
        x.write(0, 1, 0);
        Check.due("34: no number", 0, () -> x.leftFor(0, 1));
    }

    // ---- promise 37: "the first cell whose number has a field that is certain"

    private static void hints() {
        PaddockFields x = Boards.board(Boards.ONES);
        for (int cell = 0; cell < 42; cell++) {
            Check.due("37: the first one", cell, x::hint);
            Check.due("36: those behind it", 42 - cell, x::certain);
            x.draw(cell / 7, cell % 7, cell / 7, cell % 7);
        }
        Check.due("37: none", Check.STATE, x::hint);
        Check.due("36: none", 0, x::certain);
        PaddockFields twenty = Boards.board(TWENTY);
        twenty.draw(0, 0, 3, 4);
        Check.due("37: the number's cell, not the first one of its field", 6, twenty::hint);
        twenty.draw(0, 5, 5, 6);
        Check.due("37: the only one", 35, twenty::hint);
    }

    // ---- promise 38 to 40: "50 if they are more"

    private static void ways() {
        waysOf(EMPTY, 0, 0);
        waysOf(Boards.HOLE, 0, 0);
        waysOf(Boards.ONES, 1, 1);
        waysOf(TWENTY, 1, 1);
        waysOf(Boards.TWO_WAYS, 2, 2);
        waysOf(FORTY_NINE, 49, 49);
        waysOf(FIFTY, 50, 50);
        waysOf(FIFTY_ONE, 51, 50);
        PaddockFields many = Boards.board(Boards.MANY);
        Check.due("38: many", 50, many::waysByNumbers);
        Check.due("39: many", 50, many::waysByCells);
        Check.due("40: many", false, many::isUnique);
    }

    private static void waysOf(String[] rows, int all, int due) {
        PaddockFields x = Boards.board(rows);
        Model m = new Model();
        for (int cell = 0; cell < 42; cell++) {
            m.write(cell / 7, cell % 7, x.numberAt(cell / 7, cell % 7));
        }
        Check.due("ways of the model", all, m::allWays);
        Check.due("38: of " + all, due, x::waysByNumbers);
        Check.due("39: of " + all, due, x::waysByCells);
        Check.due("40: of " + all, all == 1, x::isUnique);
    }

    // ---- promise 41, 42

    private static void largestFields() {
        PaddockFields x = Boards.board(TWENTY);
        for (int cell = 0; cell < 42; cell++) {
            boolean right = cell % 7 > 4;
            boolean low = cell / 7 > 3;
            answer("41: sizeInFirst", right ? 12 : low ? 10 : 20, cell, (row, column) -> x.sizeInFirst(row, column));
            answer("42: cornerInFirst", right ? 5 : low ? 28 : 0, cell, (row, column) -> x.cornerInFirst(row, column));
        }
        x.draw(0, 5, 5, 6);
        answer("41: of a field that is drawn", 12, 41, (row, column) -> x.sizeInFirst(row, column));
        answer("42: of a field that is drawn", 5, 41, (row, column) -> x.cornerInFirst(row, column));
    }

    // ---- promise 43: "fields .. drawn that are not in the first way to fill the board without any fields"

    private static void strayFields() {
        PaddockFields x = Boards.board(Boards.MANY);
        Check.due("43: none drawn", 0, x::strayFields);
        for (int column = 0; column < 7; column++) {
            for (int row = 0; row < 6; row += 2) {
                x.draw(row, column, row + 1, column);
            }
        }
        x.erase(5, 6);
        x.erase(3, 6);
        x.erase(1, 6);
        Check.due("43: all that stand, where the first way has them lying", 18, x::strayFields);
        x.finish();
        Check.due("43: those that have to stand are not", 18, x::strayFields);
        PaddockFields ones = full(Boards.ONES);
        Check.due("43: all are in it", 0, ones::strayFields);
        ones.erase(3, 3);
        ones.write(3, 3, 2);
        Check.due("43: no way without any fields", Check.STATE, ones::strayFields);
    }

    // ---- promise 44: "divided by the numbers that are not in a field; 0.0 without any"

    private static void means() {
        PaddockFields x = Boards.board(Boards.ONES);
        Check.due("44: one each", 1.0, x::meanPossible);
        x.settle();
        Check.due("44: all numbers are in fields", 0.0, x::meanPossible);
        x.erase(5, 6);
        Check.due("44: one is not", 1.0, x::meanPossible);
        x.write(5, 6, 2);
        Check.due("44: it has none", 0.0, x::meanPossible);
        x.erase(5, 5);
        x.write(5, 5, 0);
        Check.due("44: it has one", 1.0, x::meanPossible);
        Check.due("44: no numbers", 0.0, () -> Boards.board(EMPTY).meanPossible());
    }

    // ---- promise 45

    private static void digests() {
        digestOf("a full board, where certain is 0 and hint throws", full(Boards.SEVENS), full(model(Boards.SEVENS)));
        digestOf("the first cell's hint", Boards.board(Boards.ONES), model(Boards.ONES));
        digestOf("a contradiction", Boards.board(Boards.HOLE), model(Boards.HOLE));
        digestOf("no number", Boards.board(EMPTY), model(EMPTY));
        digestOf("49 ways", Boards.board(FORTY_NINE), model(FORTY_NINE));
        digestOf("50 ways", Boards.board(FIFTY), model(FIFTY));
        digestOf("51 ways", Boards.board(FIFTY_ONE), model(FIFTY_ONE));
        digestOf("the largest number", Boards.board(TWENTY), model(TWENTY));
        PaddockFields x = Boards.board(Boards.MANY);
        long before = x.digest();
        x.append('!');
        Check.due("45: the length, 1 in place of 0, and the code", 31 * (before + 1) + 33, x::digest);
        PaddockFields y = new PaddockFields();
        Model m = new Model();
        for (int i = 0; i < 60; i++) {
            int code = 126 - i;
            y.append(code);
            m.append(code);
        }
        digestOf("60 signs", y, m);
        int[][] numbers = {{0, 0, 2}, {5, 6, 1}, {3, 3, 20}, {1, 5, 11}, {4, 2, 13}, {2, 0, 17}, {0, 6, 19}};
        for (int[] number : numbers) {
            y.write(number[0], number[1], number[2]);
            m.write(number[0], number[1], number[2]);
            digestOf("a mean of " + m.meanPossible(), y, m);
        }
    }

    private static Model model(String[] rows) {
        Model m = new Model();
        for (int row = 0; row < 6; row++) {
            for (int i = 0; i < 7; i++) {
                m.append(rows[row].charAt(i));
            }
            m.writeRow(row);
        }
        return m;
    }

    private static Model full(Model m) {
        m.finish();
        return m;
    }

    private static void digestOf(String what, PaddockFields x, Model m) {
        Check.due("45: " + what, m.digest(), x::digest);
        x.keep(1);
        m.keep(1);
        Check.due("45: " + what + ", with slot 1", m.digest(), x::digest);
    }
}

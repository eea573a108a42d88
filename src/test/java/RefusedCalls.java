import java.util.function.Consumer;

/**
 * Each call that the document refuses, on all sides of what it allows: it throws the exception that is due,
 * the one named first if there are several, and the object stays as one on which the call is not made.
 */
public final class RefusedCalls {
    private static final int MIN = Integer.MIN_VALUE;
    private static final int MAX = Integer.MAX_VALUE;
    /** 7 times this row, reckoned with wrap-around, is 3. */
    private static final int WRAPPING_ROW = 613566757;
    private static final int[][] NO_CELLS = {{-1, 0}, {-1, 6}, {6, 0}, {6, 6}, {0, -1}, {5, -1}, {0, 7}, {5, 7},
        {-1, 7}, {6, -7}, {1, -7}, {0, 41}, {WRAPPING_ROW, 0}, {MIN, 0}, {MAX, 0}, {0, MIN}, {0, MAX}, {MIN, MIN},
        {MAX, MAX}};
    private static final int[][] NO_RECTANGLES = {{-1, 2, 0, 2}, {-1, 2, -1, 2}, {0, -1, 0, 2}, {0, -1, 0, -1},
        {5, 0, 6, 0}, {6, 0, 6, 0}, {0, 6, 0, 7}, {0, 7, 0, 7}, {1, 2, 0, 2}, {5, 2, 0, 2}, {0, 3, 0, 2}, {0, 6, 0, 0},
        {1, 3, 0, 2}, {-1, -1, -1, -1}, {6, 7, 6, 7}, {MIN, 2, 0, 2}, {0, MIN, 0, 2}, {0, 2, MAX, 2}, {0, 2, 0, MAX},
        {0, 2, MIN, 2}, {0, 2, 0, MIN}, {MAX, 2, 0, 2}, {0, MAX, 0, 2}, {MIN, MIN, MAX, MAX}, {MAX, MAX, MIN, MIN},
        {WRAPPING_ROW, 0, WRAPPING_ROW, 0}};

    private interface CellCall {
        Object at(PaddockFields x, int row, int column);
    }

    private interface RectangleCall {
        Object at(PaddockFields x, int top, int left, int bottom, int right);
    }

    private RefusedCalls() {
    }

    public static void main(String[] args) {
        imagesTellChanges();
        cells();
        rectangles();
        writing();
        making();
        drawing();
        erasing();
        settling();
        finishing();
        appending();
        writingRows();
        slots();
        undoing();
        fieldsOfCells();
        places();
        certainFields();
        firstWays();
        answeredCallsThatChangeNothing();
        Check.end("RefusedCalls");
    }

    // ---- objects to refuse calls

    /**
     * The upper left corner of two twos is open, the 1 beside it and the lower left one are fields; each slot has
     * another board, the six saved states are unlike, and the buffer tells no row.
     */
    private static PaddockFields busy() {
        PaddockFields x = new PaddockFields();
        x.make(12);
        x.keep(0);
        Boards.writeRows(x, Boards.TWO_WAYS);
        x.write(5, 6, 4);
        x.draw(0, 0, 1, 0);
        x.keep(1);
        x.write(5, 6, 1);
        x.erase(1, 0);
        x.draw(0, 2, 0, 2);
        x.draw(5, 0, 5, 0);
        Boards.type(x, "1.a?");
        return x;
    }

    private static PaddockFields busy(Consumer<PaddockFields> more) {
        PaddockFields x = busy();
        more.accept(x);
        return x;
    }

    /** Busy, with a number in the midst in place of the 1: 0 leaves a hole there, 3 has no rectangle. */
    private static Consumer<PaddockFields> inTheMidst(int number) {
        return x -> x.write(2, 3, number);
    }

    private static Consumer<PaddockFields> typed(String text) {
        return x -> {
            x.clearBuffer();
            Boards.type(x, text);
        };
    }

    private static void nothing(PaddockFields x) {
        // the object as it comes
    }

    private static void refused(String what, String exception, Consumer<PaddockFields> before,
            Consumer<PaddockFields> call) {
        PaddockFields called = busy(before);
        Check.dueDone(what, exception, () -> call.accept(called));
        Check.due(what + " changes nothing", Image.of(busy(before)), () -> Image.of(called));
    }

    private static void refused(String what, String exception, Consumer<PaddockFields> call) {
        refused(what, exception, RefusedCalls::nothing, call);
    }

    private static void refusedWhenNew(String what, String exception, Consumer<PaddockFields> call) {
        PaddockFields called = new PaddockFields();
        Check.dueDone(what + " on a new object", exception, () -> call.accept(called));
        Check.due(what + " on a new object changes nothing", Image.of(new PaddockFields()), () -> Image.of(called));
    }

    /** The other side of a boundary: the same call, just inside of it, is answered. */
    private static void answered(String what, Object answer, Consumer<PaddockFields> before, CallWithAnswer call) {
        PaddockFields called = busy(before);
        Check.due(what + " is answered", answer, () -> call.on(called));
    }

    private static void answered(String what, Object answer, CallWithAnswer call) {
        answered(what, answer, RefusedCalls::nothing, call);
    }

    private interface CallWithAnswer {
        Object on(PaddockFields x);
    }

    // ---- the image of an object tells each part of it

    private static void imagesTellChanges() {
        unlike("a number", x -> x.write(3, 3, 2));
        unlike("a saved state", x -> x.write(3, 3, 1));
        unlike("a field", x -> x.draw(3, 3, 3, 3));
        unlike("a sign of the buffer", x -> {
            x.clearBuffer();
            Boards.type(x, "1.b?");
        });
        unlike("one more sign", x -> x.append('?'));
        unlike("slot 0", x -> x.keep(0));
        unlike("slot 1", x -> x.keep(1));
        unlike("one state less", PaddockFields::undo);
        String image = Image.of(busy());
        Check.due("an image is the same when it is made again", image, () -> Image.of(busy()));
        Check.due("an image has six saved states", 7, () -> image.split("saved [0-9]+ saved").length);
    }

    private static void unlike(String what, Consumer<PaddockFields> change) {
        Check.due("the image tells " + what, false, () -> Image.of(busy(change)).equals(Image.of(busy())));
    }

    // ---- "if there is no such cell", "if there is no such rectangle": ahead of all other exceptions

    private static void cells() {
        noCell("2: write", (x, row, column) -> x.write(row, column, 1));
        noCell("2: write 21, ahead of the number,", (x, row, column) -> x.write(row, column, 21));
        noCell("2: write -1, ahead of the number,", (x, row, column) -> x.write(row, column, -1));
        noCell("5: erase", (x, row, column) -> x.erase(row, column));
        noCell("17: numberAt", (x, row, column) -> x.numberAt(row, column));
        noCell("20: isInField", (x, row, column) -> x.isInField(row, column));
        noCell("21: fieldSize", (x, row, column) -> x.fieldSize(row, column));
        noCell("22: cornerOf", (x, row, column) -> x.cornerOf(row, column));
        noCell("27: possibleFor", (x, row, column) -> x.possibleFor(row, column));
        noCell("28: possibleAt", (x, row, column) -> x.possibleAt(row, column, 0));
        noCell("28: possibleAt, a wrong place", (x, row, column) -> x.possibleAt(row, column, -1));
        noCell("29: coveredBy", (x, row, column) -> x.coveredBy(row, column));
        noCell("30: claimedBy", (x, row, column) -> x.claimedBy(row, column));
        noCell("34: leftFor", (x, row, column) -> x.leftFor(row, column));
        noCell("41: sizeInFirst", (x, row, column) -> x.sizeInFirst(row, column));
        noCell("42: cornerInFirst", (x, row, column) -> x.cornerInFirst(row, column));
    }

    private static void noCell(String name, CellCall call) {
        for (int[] at : NO_CELLS) {
            String what = name + " of no cell " + at[0] + ", " + at[1];
            refused(what, Check.BOUNDS, x -> call.at(x, at[0], at[1]));
            refused(what + ", ahead of no way", Check.BOUNDS, inTheMidst(0), x -> call.at(x, at[0], at[1]));
            refusedWhenNew(what, Check.BOUNDS, x -> call.at(x, at[0], at[1]));
        }
    }

    private static void rectangles() {
        noRectangle("4: draw", (x, top, left, bottom, right) -> x.draw(top, left, bottom, right));
        noRectangle("26: reasonAgainst", (x, top, left, bottom, right) -> x.reasonAgainst(top, left, bottom, right));
    }

    private static void noRectangle(String name, RectangleCall call) {
        for (int[] r : NO_RECTANGLES) {
            String what = name + " of no rectangle " + r[0] + ", " + r[1] + ", " + r[2] + ", " + r[3];
            refused(what, Check.BOUNDS, x -> call.at(x, r[0], r[1], r[2], r[3]));
            refusedWhenNew(what, Check.BOUNDS, x -> call.at(x, r[0], r[1], r[2], r[3]));
        }
    }

    // ---- promise 2

    private static void writing() {
        for (int number : new int[] {-1, 21, MIN, MAX, 256, 257, -20}) {
            refused("2: write of " + number, Check.ARGUMENT, x -> x.write(3, 3, number));
            refused("2: write of " + number + " into a field, by the number", Check.ARGUMENT,
                    x -> x.write(0, 2, number));
            refusedWhenNew("2: write of " + number, Check.ARGUMENT, x -> x.write(3, 3, number));
        }
        answered("2: write of 0", 1, x -> x.write(3, 3, 0));
        answered("2: write of 20", 1, x -> x.write(3, 3, 20));
        for (int number : new int[] {0, 1, 20}) {
            refused("2: write of " + number + " into a field", Check.STATE, x -> x.write(0, 2, number));
        }
        Consumer<PaddockFields> twos = x -> x.draw(0, 0, 0, 1);
        refused("2: write over the number of a field", Check.STATE, twos, x -> x.write(0, 0, 2));
        refused("2: write into a field's empty cell", Check.STATE, twos, x -> x.write(0, 1, 0));
        answered("2: write below a field", 0, twos, x -> x.write(1, 0, 3));
        answered("2: write beside a field", 1, x -> x.write(0, 3, 3));
        answered("2: write when the field is away", 1, x -> x.erase(0, 2), x -> x.write(0, 2, 3));
    }

    // ---- promise 3

    private static void making() {
        for (int seed : new int[] {-1, 1000000, 1000001, MIN, MAX}) {
            refused("3: make of " + seed, Check.ARGUMENT, x -> x.make(seed));
            refusedWhenNew("3: make of " + seed, Check.ARGUMENT, x -> x.make(seed));
        }
        answered("3: make of 0", 9, x -> x.make(0));
        answered("3: make of 999999", 10, x -> x.make(999999));
    }

    // ---- promise 4

    private static void drawing() {
        Consumer<PaddockFields> three = x -> {
            x.write(3, 2, 0);
            x.write(3, 3, 3);
            x.write(3, 4, 0);
            x.write(4, 4, 4);
        };
        refused("4: draw of a field once more", Check.STATE, x -> x.draw(0, 2, 0, 2));
        refused("4: draw over the last cell of a field", Check.STATE, x -> x.draw(0, 0, 0, 2));
        refused("4: draw over the first cell of a field", Check.STATE, x -> x.draw(0, 2, 0, 3));
        refused("4: draw of the whole board", Check.STATE, x -> x.draw(0, 0, 5, 6));
        refused("4: draw with no number", Check.STATE, three, x -> x.draw(3, 2, 3, 2));
        refused("4: draw with two numbers that make its cells", Check.STATE, x -> x.draw(3, 0, 3, 1));
        refused("4: draw with two numbers, the first of which has its cells", Check.STATE, three,
                x -> x.draw(3, 3, 3, 5));
        refused("4: draw of a cell less than the number", Check.STATE, three, x -> x.draw(3, 3, 3, 4));
        refused("4: draw of a cell more than the number", Check.STATE, three, x -> x.draw(3, 2, 4, 3));
        refused("4: draw with two numbers, the last of which has its cells", Check.STATE, three,
                x -> x.draw(3, 3, 4, 4));
        answered("4: draw of as many cells", 5, three, x -> x.draw(3, 2, 3, 4));
        answered("4: draw beside a field", 4, x -> x.draw(0, 0, 0, 1));
        for (int[] r : new int[][] {{0, 0, 6, 0}, {0, 2, 0, 7}, {0, 2, -1, 2}, {-1, 2, 0, 2}, {0, -1, 0, 2}}) {
            refused("4: draw of no rectangle, ahead of the field", Check.BOUNDS, x -> x.draw(r[0], r[1], r[2], r[3]));
        }
        refusedWhenNew("4: draw with no number", Check.STATE, x -> x.draw(0, 0, 0, 0));
        refusedWhenNew("4: draw of all with no number", Check.STATE, x -> x.draw(0, 0, 5, 6));
    }

    // ---- promise 5

    private static void erasing() {
        refused("5: erase left of a field", Check.STATE, x -> x.erase(0, 1));
        refused("5: erase right of a field", Check.STATE, x -> x.erase(0, 3));
        refused("5: erase below a field", Check.STATE, x -> x.erase(1, 2));
        refused("5: erase above a field", Check.STATE, x -> x.erase(4, 0));
        refused("5: erase once more", Check.STATE, x -> x.erase(0, 2), x -> x.erase(0, 2));
        refused("5: erase when all are away", Check.STATE, PaddockFields::eraseAll, x -> x.erase(5, 0));
        refusedWhenNew("5: erase", Check.STATE, x -> x.erase(0, 0));
        answered("5: erase of a field", 1, x -> x.erase(0, 2));
    }

    // ---- promise 7

    private static void settling() {
        refused("7: settle with a cell in no rectangle", Check.STATE, inTheMidst(0), PaddockFields::settle);
        refused("7: settle with a number without one", Check.STATE, inTheMidst(3), PaddockFields::settle);
        refusedWhenNew("7: settle", Check.STATE, PaddockFields::settle);
        answered("7: settle without a contradiction", 36, PaddockFields::settle);
    }

    // ---- promise 8

    private static void finishing() {
        refused("8: finish with a cell in no rectangle", Check.STATE, inTheMidst(0), PaddockFields::finish);
        refused("8: finish with a number without one", Check.STATE, inTheMidst(3), PaddockFields::finish);
        refused("8: finish with fields in the way", Check.STATE, RefusedCalls::shut, PaddockFields::finish);
        refusedWhenNew("8: finish", Check.STATE, PaddockFields::finish);
        answered("8: finish with a way", 38, PaddockFields::finish);
    }

    /** Draws a field that leaves no way, though without any fields there is one. */
    private static void shut(PaddockFields x) {
        x.clearBuffer();
        x.eraseAll();
        Boards.type(x, "2.2.111");
        x.writeRow(0);
        x.write(1, 0, 1);
        x.write(1, 1, 1);
        x.draw(0, 1, 0, 2);
    }

    // ---- promise 9

    private static void appending() {
        String sixty = "..........".repeat(6);
        for (int code : new int[] {32, 127, 0, -1, 10, 128, 256 + 46, 65536 + 46, MIN, MAX, MIN + 46}) {
            refused("9: append of " + code, Check.ARGUMENT, x -> x.append(code));
            refused("9: append of " + code + " to 60, by the code", Check.ARGUMENT, typed(sixty), x -> x.append(code));
            refusedWhenNew("9: append of " + code, Check.ARGUMENT, x -> x.append(code));
        }
        for (int code : new int[] {33, 46, 126}) {
            refused("9: append of " + code + " to 60", Check.STATE, typed(sixty), x -> x.append(code));
            answered("9: append of " + code, 5, x -> x.append(code));
            answered("9: append of " + code + " to 59", 60, typed(sixty.substring(1)), x -> x.append(code));
        }
    }

    // ---- promise 12

    private static void writingRows() {
        for (int row : new int[] {-1, 6, 7, MIN, MAX, WRAPPING_ROW}) {
            refused("12: writeRow " + row + ", ahead of the text", Check.BOUNDS, x -> x.writeRow(row));
            refused("12: writeRow " + row, Check.BOUNDS, typed("1111111"), x -> x.writeRow(row));
            refusedWhenNew("12: writeRow " + row, Check.BOUNDS, x -> x.writeRow(row));
        }
        for (String text : new String[] {"", ".", "......", "........", "0......", "......l", "...A...", "......0",
            "l......", "1.a?", "11111111", ".".repeat(60)}) {
            refused("12: writeRow of " + text, Check.ARGUMENT, typed(text), x -> x.writeRow(1));
            refused("12: writeRow of " + text + " over a field, by the text", Check.ARGUMENT, typed(text),
                    x -> x.writeRow(0));
        }
        refusedWhenNew("12: writeRow of an empty buffer", Check.ARGUMENT, x -> x.writeRow(0));
        refused("12: writeRow over a field", Check.STATE, typed("......."), x -> x.writeRow(0));
        refused("12: writeRow of the numbers that the row has", Check.STATE, typed("2.11111"), x -> x.writeRow(0));
        refused("12: writeRow over a field in the first column", Check.STATE, typed("1111111"), x -> x.writeRow(5));
        refused("12: writeRow over a field in the last column", Check.STATE, x -> {
            x.draw(4, 6, 4, 6);
            typed("kkkkkkk").accept(x);
        }, x -> x.writeRow(4));
        answered("12: writeRow below a field", 7, typed("1111111"), x -> x.writeRow(1));
        answered("12: writeRow above a field", 0, typed("......."), x -> x.writeRow(4));
        for (int cell = 0; cell < 42; cell++) {
            writingRowsBeside(cell / 7, cell % 7);
        }
    }

    /** A field of one cell refuses its own row, and no other one. */
    private static void writingRowsBeside(int row, int column) {
        for (int other = 0; other < 6; other++) {
            int r = other;
            PaddockFields x = Boards.board(Boards.ONES);
            x.draw(row, column, row, column);
            Boards.type(x, "k.....k");
            Check.due("12: writeRow " + r + " with a field in " + row + ", " + column, r == row ? Check.STATE : "2",
                    () -> x.writeRow(r));
            Check.due("12: the numbers then", r == row ? 42 : 37, x::numbers);
            Check.due("12: the buffer then", r == row ? 7 : 0, x::clearBuffer);
        }
    }

    // ---- promise 13, 14

    private static void slots() {
        for (int slot : new int[] {-1, 2, 3, 256, MIN, MAX}) {
            refused("13: keep " + slot, Check.ARGUMENT, x -> x.keep(slot));
            refused("14: goBack " + slot, Check.ARGUMENT, x -> x.goBack(slot));
            refusedWhenNew("13: keep " + slot, Check.ARGUMENT, x -> x.keep(slot));
            refusedWhenNew("14: goBack " + slot + ", ahead of the empty slot,", Check.ARGUMENT, x -> x.goBack(slot));
        }
        for (int slot = 0; slot < 2; slot++) {
            int s = slot;
            refusedWhenNew("14: goBack to the empty slot " + s, Check.STATE, x -> x.goBack(s));
            PaddockFields called = keptIn(1 - s);
            Check.dueDone("14: goBack to the empty slot " + s + ", the other one is filled", Check.STATE,
                    () -> called.goBack(s));
            Check.due("14: this changes nothing", Image.of(keptIn(1 - s)), () -> Image.of(called));
            answered("14: goBack to the filled slot " + s, "done", x -> {
                x.goBack(s);
                return "done";
            });
        }
    }

    private static PaddockFields keptIn(int slot) {
        PaddockFields x = Boards.board(Boards.SEVENS);
        x.keep(slot);
        x.write(3, 3, 9);
        Boards.type(x, "k");
        return x;
    }

    // ---- promise 15

    private static void undoing() {
        refusedWhenNew("15: undo", Check.STATE, PaddockFields::undo);
        refused("15: undo, the seventh time", Check.STATE, RefusedCalls::undoSixTimes, PaddockFields::undo);
        refused("15: undo, once and again", Check.STATE, RefusedCalls::undoSixTimes, x -> {
            Check.dueDone("15: undo, the seventh time", Check.STATE, x::undo);
            x.undo();
        });
    }

    private static void undoSixTimes(PaddockFields x) {
        for (int i = 0; i < 6; i++) {
            x.undo();
        }
    }

    // ---- promise 21, 22

    private static void fieldsOfCells() {
        CellCall[] calls = {(x, row, column) -> x.fieldSize(row, column), (x, row, column) -> x.cornerOf(row, column)};
        for (int i = 0; i < calls.length; i++) {
            CellCall call = calls[i];
            String name = i == 0 ? "21: fieldSize" : "22: cornerOf";
            refused(name + " beside a field", Check.STATE, x -> call.at(x, 0, 1));
            refused(name + " below a field", Check.STATE, x -> call.at(x, 1, 2));
            refused(name + " where a field was", Check.STATE, x -> x.erase(0, 2), x -> call.at(x, 0, 2));
            refused(name + " where all fields were", Check.STATE, PaddockFields::eraseAll, x -> call.at(x, 0, 2));
            refusedWhenNew(name, Check.STATE, x -> call.at(x, 0, 0));
            answered(name + " in a field", i == 0 ? 1 : 2, x -> call.at(x, 0, 2));
        }
    }

    // ---- promise 28

    private static void places() {
        for (int place : new int[] {2, 3, -1, MIN, MAX}) {
            refused("28: possibleAt of two, place " + place, Check.BOUNDS, x -> x.possibleAt(0, 0, place));
        }
        answered("28: possibleAt of two, place 0", Boards.code(0, 0, 0, 1), x -> x.possibleAt(0, 0, 0));
        answered("28: possibleAt of two, place 1", Boards.code(0, 0, 1, 0), x -> x.possibleAt(0, 0, 1));
        for (int place : new int[] {0, 1, -1, MIN, MAX}) {
            refused("28: possibleAt in a field, place " + place, Check.BOUNDS, x -> x.possibleAt(0, 2, place));
            refused("28: possibleAt without a number, place " + place, Check.BOUNDS, x -> x.possibleAt(0, 1, place));
            refused("28: possibleAt of a number without a rectangle, place " + place, Check.BOUNDS, inTheMidst(3),
                    x -> x.possibleAt(2, 3, place));
        }
        refusedWhenNew("28: possibleAt", Check.BOUNDS, x -> x.possibleAt(0, 0, 0));
    }

    // ---- promise 36, 37

    private static void certainFields() {
        for (int number : new int[] {0, 3}) {
            refused("36: certain with a contradiction", Check.STATE, inTheMidst(number), PaddockFields::certain);
            refused("37: hint with a contradiction", Check.STATE, inTheMidst(number), PaddockFields::hint);
        }
        refusedWhenNew("36: certain", Check.STATE, PaddockFields::certain);
        refusedWhenNew("37: hint", Check.STATE, PaddockFields::hint);
        refused("37: hint when none is certain", Check.STATE, PaddockFields::settle, PaddockFields::hint);
        refused("37: hint on a full board", Check.STATE, PaddockFields::finish, PaddockFields::hint);
        answered("36: certain when none is", 0, PaddockFields::settle, PaddockFields::certain);
        answered("36: certain on a full board", 0, PaddockFields::finish, PaddockFields::certain);
        answered("36: certain without a contradiction", 36, PaddockFields::certain);
        answered("37: hint when some are", 3, PaddockFields::hint);
        answered("37: hint when one is", 41, x -> {
            x.settle();
            x.erase(5, 6);
        }, PaddockFields::hint);
    }

    // ---- promise 41 to 43

    private static void firstWays() {
        refused("41: sizeInFirst without a way", Check.STATE, inTheMidst(0), x -> x.sizeInFirst(0, 0));
        refused("42: cornerInFirst without a way", Check.STATE, inTheMidst(0), x -> x.cornerInFirst(0, 0));
        refused("43: strayFields without a way", Check.STATE, inTheMidst(0), PaddockFields::strayFields);
        refused("41: sizeInFirst of a field, without a way", Check.STATE, inTheMidst(3), x -> x.sizeInFirst(0, 2));
        refused("42: cornerInFirst of a field, without a way", Check.STATE, inTheMidst(3),
                x -> x.cornerInFirst(0, 2));
        refused("41: sizeInFirst with fields in the way", Check.STATE, RefusedCalls::shut, x -> x.sizeInFirst(5, 6));
        refused("42: cornerInFirst with fields in the way", Check.STATE, RefusedCalls::shut,
                x -> x.cornerInFirst(5, 6));
        answered("43: strayFields with fields in the way", 1, RefusedCalls::shut, PaddockFields::strayFields);
        refusedWhenNew("41: sizeInFirst", Check.STATE, x -> x.sizeInFirst(0, 0));
        refusedWhenNew("42: cornerInFirst", Check.STATE, x -> x.cornerInFirst(0, 0));
        refusedWhenNew("43: strayFields", Check.STATE, PaddockFields::strayFields);
        answered("41: sizeInFirst with a way", 2, x -> x.sizeInFirst(0, 0));
        answered("42: cornerInFirst with a way", 41, x -> x.cornerInFirst(5, 6));
        answered("43: strayFields with a way", 0, PaddockFields::strayFields);
    }

    // ---- "the board as it is; nothing is changed", and so on for all calls that only tell something

    private static void answeredCallsThatChangeNothing() {
        for (int cell : new int[] {0, 1, 2, 21, 41}) {
            int row = cell / 7;
            int column = cell % 7;
            same("17: numberAt", x -> x.numberAt(row, column));
            same("20: isInField", x -> x.isInField(row, column));
            same("27: possibleFor", x -> x.possibleFor(row, column));
            same("29: coveredBy", x -> x.coveredBy(row, column));
            same("30: claimedBy", x -> x.claimedBy(row, column));
            same("34: leftFor", x -> x.leftFor(row, column));
            same("41: sizeInFirst", x -> x.sizeInFirst(row, column));
            same("42: cornerInFirst", x -> x.cornerInFirst(row, column));
        }
        same("11: firstError", PaddockFields::firstError);
        same("16: savedStates", PaddockFields::savedStates);
        same("18: numbers", PaddockFields::numbers);
        same("19: sum", PaddockFields::sum);
        same("21: fieldSize", x -> x.fieldSize(0, 2));
        same("22: cornerOf", x -> x.cornerOf(0, 2));
        same("23: fields", PaddockFields::fields);
        same("24: openCells", PaddockFields::openCells);
        same("25: isFull", PaddockFields::isFull);
        same("26: reasonAgainst a field", x -> x.reasonAgainst(0, 0, 0, 2));
        same("26: reasonAgainst none", x -> x.reasonAgainst(0, 0, 0, 1));
        same("28: possibleAt", x -> x.possibleAt(0, 0, 1));
        same("31: possible", PaddockFields::possible);
        same("32: rounds", PaddockFields::rounds);
        same("33: leftInTheEnd", PaddockFields::leftInTheEnd);
        same("35: isContradiction", PaddockFields::isContradiction);
        same("36: certain", PaddockFields::certain);
        same("37: hint", PaddockFields::hint);
        same("38: waysByNumbers", PaddockFields::waysByNumbers);
        same("39: waysByCells", PaddockFields::waysByCells);
        same("40: isUnique", PaddockFields::isUnique);
        same("43: strayFields", PaddockFields::strayFields);
        same("44: meanPossible", PaddockFields::meanPossible);
        same("45: digest", PaddockFields::digest);
    }

    private static void same(String what, Consumer<PaddockFields> call) {
        PaddockFields called = busy();
        Check.dueDone(what, "done", () -> call.accept(called));
        Check.due(what + " changes nothing", Image.of(busy()), () -> Image.of(called));
        PaddockFields many = busy(x -> Boards.writeRows(typedAway(x), Boards.MANY));
        Check.answerOf(() -> {
            call.accept(many);
            return "";
        });
        Check.due(what + " changes nothing with many ways",
                Image.of(busy(x -> Boards.writeRows(typedAway(x), Boards.MANY))), () -> Image.of(many));
    }

    private static PaddockFields typedAway(PaddockFields x) {
        x.eraseAll();
        x.clearBuffer();
        return x;
    }
}

import java.util.ArrayList;
import java.util.Arrays;
import java.util.List;

/** Each sentence of the document's terms that names a boundary, on both of its sides. */
public final class TermTests {
    private static final int[][] CORNERS = {{0, 0}, {0, 6}, {5, 0}, {5, 6}};
    /** For each number how many rectangles at a corner of the board have so many cells. */
    private static final int[] AT_A_CORNER = {0, 1, 2, 2, 3, 2, 4, 1, 2, 1, 2, 0, 4, 0, 1, 2, 1, 0, 2, 0, 2};
    /** Twos along a path of 14 cells that is forced at both of its ends: a round settles one number at each end. */
    private static final String[] PATH = {".2.2.2.", "1111112", "12.2.2.", "1111111", "1111111", "1111111"};

    private TermTests() {
    }

    public static void main(String[] args) {
        lifeOfAnObject();
        cellsOfTheBoard();
        numbersOfCells();
        fieldsOfOneNumber();
        fieldsSideBySide();
        filledBoard();
        possibleBySize();
        possibleByNumbers();
        possibleByFields();
        orderOfRectangles();
        roundsByCellsOfOneNumber();
        roundsByNeededCells();
        roundsUntilNothingIsRuledOut();
        contradictions();
        certainFields();
        waysWithFields();
        orderOfWays();
        numbersBySeed();
        textsOfRows();
        errorsByPlace();
        slots();
        savedStates();
        undoableCalls();
        callsThatSaveNothing();
        Check.end("TermTests");
    }

    private static PaddockFields with(int row, int column, int number) {
        PaddockFields x = new PaddockFields();
        x.write(row, column, number);
        return x;
    }

    private static String place(int row, int column) {
        return " at " + row + ", " + column;
    }

    // ---- "An object is used for at most 512 calls after it has been made"

    private static void lifeOfAnObject() {
        PaddockFields x = new PaddockFields();
        Model m = new Model();
        for (int call = 1; call <= 510; call++) {
            int cell = 5 * call % 42;
            int number = call % 21;
            Check.due("write as call " + call, m.write(cell / 7, cell % 7, number),
                    () -> x.write(cell / 7, cell % 7, number));
        }
        Check.due("make as call 511", m.make(511), () -> x.make(511));
        Check.due("digest as call 512", m.digest(), x::digest);
    }

    // ---- "The board has 42 cells, in 6 rows and 7 columns, numbered from 0"

    private static void cellsOfTheBoard() {
        PaddockFields x = new PaddockFields();
        for (int cell = 0; cell < 42; cell++) {
            int row = cell / 7;
            int column = cell % 7;
            int number = cell % 20 + 1;
            Check.due("there is no number at first" + place(row, column), 0, () -> x.write(row, column, number));
        }
        for (int cell = 0; cell < 42; cell++) {
            int row = cell / 7;
            int column = cell % 7;
            Check.due("each cell has its own number" + place(row, column), cell % 20 + 1,
                    () -> x.numberAt(row, column));
        }
        Check.due("42 numbers", 42, x::numbers);
        Check.due("their sum", 2 * 210 + 1 + 2, x::sum);
    }

    // ---- "In a cell there may be a number, 1 to 20; there is none at first"

    private static void numbersOfCells() {
        for (int[] at : CORNERS) {
            for (int number : new int[] {1, 2, 19, 20}) {
                PaddockFields x = with(at[0], at[1], number);
                Check.due(number + place(at[0], at[1]), number, () -> x.numberAt(at[0], at[1]));
                Check.due(number + " alone", number, x::sum);
                Check.due("one number", 1, x::numbers);
                Check.due("taken away", number, () -> x.write(at[0], at[1], 0));
                Check.due("none", 0, x::numbers);
                Check.due("none", 0, x::sum);
            }
        }
        PaddockFields all = new PaddockFields();
        for (int row = 0; row < 6; row++) {
            Boards.type(all, "kkkkkkk");
            all.writeRow(row);
        }
        Check.due("the largest sum", 840, all::sum);
    }

    // ---- "a rectangle that has just one number in it, which tells how many cells it has"

    private static void fieldsOfOneNumber() {
        for (int top = 0; top < 6; top++) {
            for (int bottom = top; bottom < 6; bottom++) {
                for (int left = 0; left < 7; left++) {
                    for (int right = left; right < 7; right++) {
                        fieldOf(top, left, bottom, right);
                    }
                }
            }
        }
        PaddockFields x = with(3, 3, 4);
        x.write(2, 2, 4);
        Check.due("two numbers, each with its cells", 3, () -> x.reasonAgainst(2, 2, 3, 3));
        Check.due("just one number", 0, () -> x.reasonAgainst(3, 3, 4, 4));
        Check.due("no number", 2, () -> x.reasonAgainst(3, 4, 4, 5));
    }

    private static void fieldOf(int top, int left, int bottom, int right) {
        int cells = (bottom - top + 1) * (right - left + 1);
        String what = top + ", " + left + " to " + bottom + ", " + right + ": ";
        if (cells > 20) {
            PaddockFields x = with(bottom, left, 20);
            Check.due(what + "no number is as large", 4, () -> x.reasonAgainst(top, left, bottom, right));
            return;
        }
        PaddockFields x = with(bottom, left, cells);
        Check.due(what + "as many cells", 0, () -> x.reasonAgainst(top, left, bottom, right));
        if (cells > 1) {
            x.write(bottom, left, cells - 1);
            Check.due(what + "a cell more than the number", 4, () -> x.reasonAgainst(top, left, bottom, right));
        }
        if (cells < 20) {
            x.write(bottom, left, cells + 1);
            Check.due(what + "a cell less than the number", 4, () -> x.reasonAgainst(top, left, bottom, right));
        }
        x.write(bottom, left, cells);
        Check.due(what + "drawn", cells, () -> x.draw(top, left, bottom, right));
        Check.due(what + "all cells of it", cells, () -> 42 - x.openCells());
        for (int[] at : new int[][] {{top, left}, {top, right}, {bottom, left}, {bottom, right}}) {
            Check.due(what + "its size", cells, () -> x.fieldSize(at[0], at[1]));
            Check.due(what + "its corner", 7 * top + left, () -> x.cornerOf(at[0], at[1]));
        }
        for (int[] at : new int[][] {{top - 1, left}, {bottom + 1, left}, {top, left - 1}, {top, right + 1}}) {
            boolean there = at[0] >= 0 && at[0] < 6 && at[1] >= 0 && at[1] < 7;
            Check.due(what + "beside it", there ? "false" : Check.BOUNDS, () -> x.isInField(at[0], at[1]));
        }
        Check.due(what + "erased", cells, () -> x.erase(bottom, right));
        Check.due(what + "none", 0, x::fields);
    }

    // ---- "no cell is in two fields"

    private static void fieldsSideBySide() {
        int[][] beside = {{0, 2, 1, 3}, {4, 2, 5, 3}, {2, 0, 3, 1}, {2, 4, 3, 5}, {0, 0, 1, 1}, {4, 4, 5, 5}};
        int[][] over = {{1, 2, 2, 3}, {3, 2, 4, 3}, {2, 1, 3, 2}, {2, 3, 3, 4}, {1, 1, 2, 2}, {3, 3, 4, 4},
            {1, 3, 2, 4}, {3, 1, 4, 2}, {2, 2, 3, 3}};
        for (int[] r : beside) {
            PaddockFields x = fourInTheMidst();
            x.write(r[0], r[1], 4);
            Check.due("touches the field" + Arrays.toString(r), 8, () -> x.draw(r[0], r[1], r[2], r[3]));
            Check.due("two fields", 2, x::fields);
        }
        for (int[] r : over) {
            PaddockFields x = fourInTheMidst();
            Check.due("has a cell of the field" + Arrays.toString(r), 1, () -> x.reasonAgainst(r[0], r[1], r[2], r[3]));
            Check.due("not drawn", Check.STATE, () -> x.draw(r[0], r[1], r[2], r[3]));
        }
    }

    private static PaddockFields fourInTheMidst() {
        PaddockFields x = with(2, 2, 4);
        x.draw(2, 2, 3, 3);
        return x;
    }

    // ---- "The board is filled, if each cell is in a field"

    private static void filledBoard() {
        for (int left : new int[] {0, 6, 20, 35, 41}) {
            PaddockFields x = Boards.board(Boards.ONES);
            x.finish();
            Check.due("all cells", true, x::isFull);
            x.erase(left / 7, left % 7);
            Check.due("all cells but one", false, x::isFull);
            Check.due("one cell", 1, x::openCells);
            x.draw(left / 7, left % 7, left / 7, left % 7);
            Check.due("all cells again", true, x::isFull);
        }
        Check.due("no cell", false, () -> new PaddockFields().isFull());
    }

    // ---- "a rectangle is possible, if it has as many cells as the number tells"

    private static void possibleBySize() {
        for (int[] at : CORNERS) {
            for (int number = 0; number <= 20; number++) {
                PaddockFields x = with(at[0], at[1], number);
                String what = number + place(at[0], at[1]);
                Check.due(what, AT_A_CORNER[number], () -> x.possibleFor(at[0], at[1]));
                Check.due(what + " of all", AT_A_CORNER[number], x::possible);
            }
        }
        Check.due("a row", 1, () -> with(2, 3, 7).possibleFor(2, 3));
        Check.due("no column has 7 cells", Boards.code(2, 0, 2, 6), () -> with(2, 3, 7).possibleAt(2, 3, 0));
        Check.due("a column has 6", Boards.code(0, 0, 5, 0), () -> with(0, 0, 6).possibleAt(0, 0, 3));
    }

    // ---- ".. this number in it and no other one"

    private static void possibleByNumbers() {
        PaddockFields x = with(0, 0, 3);
        Check.due("to the right and down", 2, () -> x.possibleFor(0, 0));
        x.write(0, 3, 1);
        Check.due("a number behind the rectangle", 2, () -> x.possibleFor(0, 0));
        x.write(3, 0, 1);
        Check.due("one below it", 2, () -> x.possibleFor(0, 0));
        x.write(1, 1, 1);
        Check.due("one beside it", 2, () -> x.possibleFor(0, 0));
        x.write(0, 2, 1);
        Check.due("one in its last cell", 1, () -> x.possibleFor(0, 0));
        x.write(2, 0, 20);
        Check.due("one in the last cell of both", 0, () -> x.possibleFor(0, 0));
        x.write(2, 0, 0);
        Check.due("taken away again", Boards.code(0, 0, 2, 0), () -> x.possibleAt(0, 0, 0));
        Check.due("it has to have the number in it", 0, () -> x.coveredBy(2, 3));
    }

    // ---- ".. and no cell that is in a field"

    private static void possibleByFields() {
        Check.due("a field behind the rectangle", 2, () -> threeBeside(0, 3, 0, 3).possibleFor(0, 0));
        Check.due("one below it", 2, () -> threeBeside(3, 0, 3, 1).possibleFor(0, 0));
        Check.due("one beside it", 2, () -> threeBeside(1, 1, 2, 2).possibleFor(0, 0));
        PaddockFields x = threeBeside(0, 2, 1, 2);
        Check.due("one that has its last cell", 1, () -> x.possibleFor(0, 0));
        Check.due("the other rectangle", Boards.code(0, 0, 2, 0), () -> x.possibleAt(0, 0, 0));
        x.erase(0, 2);
        Check.due("taken away again", 2, () -> x.possibleFor(0, 0));
        x.draw(0, 0, 2, 0);
        Check.due("a number that is in a field", 0, () -> x.possibleFor(0, 0));
        x.erase(2, 0);
        Check.due("one that is in none", 2, () -> x.possibleFor(0, 0));
        PaddockFields both = threeBeside(1, 0, 2, 2);
        both.write(0, 2, 1);
        both.draw(0, 2, 0, 2);
        Check.due("fields on both sides", 0, () -> both.possibleFor(0, 0));
    }

    /** A 3 in the first cell, and a field elsewhere, with its number in its last cell. */
    private static PaddockFields threeBeside(int top, int left, int bottom, int right) {
        PaddockFields x = with(0, 0, 3);
        x.write(bottom, right, (bottom - top + 1) * (right - left + 1));
        x.draw(top, left, bottom, right);
        return x;
    }

    // ---- "put in order by their first row, then by their first column, then by their last row"

    private static void orderOfRectangles() {
        PaddockFields x = with(3, 3, 4);
        Check.due("a 4 in the midst", "0333 1343 2233 2334 2353 3033 3134 3235 3243 3336 3344", () -> listOf(x, 3, 3));
        x.write(1, 3, 1);
        x.write(5, 3, 1);
        x.write(0, 3, 1);
        Check.due("without the columns of four", "2233 2334 3033 3134 3235 3243 3336 3344", () -> listOf(x, 3, 3));
        x.write(0, 3, 0);
        x.write(1, 3, 0);
        x.write(4, 3, 1);
        Check.due("above another number", "0333 2233 2334 3033 3134 3235 3336", () -> listOf(x, 3, 3));
        PaddockFields six = with(0, 0, 6);
        Check.due("by the last row", "0005 0012 0021 0050", () -> listOf(six, 0, 0));
        PaddockFields end = with(5, 6, 6);
        Check.due("by the first row", "0656 3556 4456 5156", () -> listOf(end, 5, 6));
    }

    /** The rectangles of a number, each as its first row, first column, last row and last column. */
    private static String listOf(PaddockFields x, int row, int column) {
        List<String> list = new ArrayList<>();
        for (int i = 0; i < x.possibleFor(row, column); i++) {
            int code = x.possibleAt(row, column, i);
            list.add("" + code / 42 / 7 + code / 42 % 7 + code % 42 / 7 + code % 42 % 7);
        }
        return String.join(" ", list);
    }

    // ---- "a cell, in no field, that is in rectangles left for just one number, this one, but not in this rectangle"

    private static void roundsByCellsOfOneNumber() {
        // no 2 needs a cell besides its own; the first cell is just the left one's
        PaddockFields one = Boards.board(".2.2111", "112.111", "1111111", "1111111", "1111111", "1111111");
        Check.due("all are possible", 3 * 2 + 36, one::possible);
        Check.due("one round", 1, one::rounds);
        Check.due("one is ruled out", one.possible() - 1, one::leftInTheEnd);
        Check.due("of the number whose cell it is", 1, () -> one.leftFor(0, 1));
        Check.due("not of the others", 4, () -> one.leftFor(0, 3) + one.leftFor(1, 2));
        // with one number more that reaches the cell, it is that of two
        PaddockFields two = Boards.board(".2.2111", "2.2.111", "1111111", "1111111", "1111111", "1111111");
        Check.due("cells of two numbers: no round", 0, two::rounds);
        Check.due("nothing is ruled out", two.possible(), two::leftInTheEnd);
    }

    // ---- "another number, and it has a cell in it that is in all rectangles that are left for that other number"

    private static void roundsByNeededCells() {
        // each cell is in rectangles of two numbers; the left 2 needs the cell between it and the next one
        PaddockFields needed = Boards.board("2.2.111", "11.2111", "1111111", "1111111", "1111111", "1111111");
        Check.due("three are possible", 3, () -> needed.possibleFor(0, 2));
        Check.due("one round", 1, needed::rounds);
        Check.due("one is ruled out", needed.possible() - 1, needed::leftInTheEnd);
        Check.due("of the other number", 2, () -> needed.leftFor(0, 2));
        Check.due("its own stays", 1, () -> needed.leftFor(0, 0));
        PaddockFields free = Boards.board("2.2.111", ".2.2111", "1111111", "1111111", "1111111", "1111111");
        Check.due("a cell in some of its rectangles, not in all: no round", 0, free::rounds);
        Check.due("nothing is ruled out", free.possible(), free::leftInTheEnd);
        // "(and some are)": a number without any needs no cell
        PaddockFields none = Boards.board(Boards.BLOCKED);
        Check.due("none are left for the 3: no round", 0, none::rounds);
        Check.due("all others stay", 41, none::leftInTheEnd);
    }

    // ---- "Rounds follow until nothing is ruled out; a round in which nothing is ruled out does not count"

    private static void roundsUntilNothingIsRuledOut() {
        PaddockFields path = Boards.board(PATH);
        Check.due("all 2 but the last one have two", 6 * 2 + 1 + 28, path::possible);
        Check.due("three rounds", 3, path::rounds);
        Check.due("one is left for each", 7 + 28, path::leftInTheEnd);
        path.draw(0, 0, 0, 1);
        Check.due("three rounds with the first one drawn", 3, path::rounds);
        path.draw(2, 1, 2, 2);
        path.draw(2, 3, 2, 4);
        Check.due("two rounds with three drawn", 2, path::rounds);
        path.draw(0, 2, 0, 3);
        path.draw(2, 5, 2, 6);
        Check.due("one round with two left", 1, path::rounds);
        path.draw(0, 4, 0, 5);
        Check.due("no round with one left", 0, path::rounds);
        Check.due("no round without a number", 0, () -> new PaddockFields().rounds());
        Check.due("nothing left without one", 0, () -> new PaddockFields().leftInTheEnd());
        PaddockFields full = Boards.board(Boards.ONES);
        Check.due("no round, as all are needed by themselves alone", 0, full::rounds);
        full.finish();
        Check.due("no round on a full board", 0, full::rounds);
        Check.due("nothing left on a full board", 0, full::leftInTheEnd);
    }

    // ---- "There is a contradiction, if in the end some number .. has no rectangle left, or some cell .. is in none"

    private static void contradictions() {
        for (int cell : new int[] {0, 6, 20, 35, 41}) {
            PaddockFields x = Boards.board(Boards.ONES);
            Check.due("each cell has one", false, x::isContradiction);
            x.write(cell / 7, cell % 7, 0);
            Check.due("a cell is in none" + place(cell / 7, cell % 7), true, x::isContradiction);
            x.write(cell / 7, cell % 7, 2);
            Check.due("a number has none" + place(cell / 7, cell % 7), true, x::isContradiction);
            x.write(cell / 7, cell % 7, 1);
            x.draw(cell / 7, cell % 7, cell / 7, cell % 7);
            Check.due("a number in a field needs none", false, x::isContradiction);
            x.finish();
            Check.due("nor does any on a full board", false, x::isContradiction);
        }
        PaddockFields end = Boards.board(".2.2.11", "1111111", "1111111", "1111111", "1111111", "1111111");
        Check.due("at the beginning each cell is in one", 1 + 2, () -> end.coveredBy(0, 0) + end.coveredBy(0, 2));
        Check.due("in the end one cell is in none", true, end::isContradiction);
        PaddockFields more = Boards.board(".2.21..", "1111111", "1111111", "1111111", "1111111", "1111111");
        Check.due("cells that no number reaches", true, more::isContradiction);
    }

    // ---- "A field is certain, if there is no contradiction, and its rectangle is the only one that is left"

    private static void certainFields() {
        PaddockFields x = Boards.board(Boards.TWO_WAYS);
        Check.due("not those of which two are left", 38, x::certain);
        x.draw(0, 0, 0, 1);
        Check.due("nor one that is drawn, but the other one", 39, x::certain);
        x.erase(0, 0);
        x.write(3, 3, 0);
        Check.due("none with a contradiction", Check.STATE, x::certain);
        x.write(3, 3, 1);
        Check.due("again", 38, x::certain);
        Check.due("settle draws as many", 38, x::settle);
        Check.due("and then none is certain", 0, x::certain);
        Check.due("those after three rounds", 35, () -> Boards.board(PATH).certain());
        Check.due("drawn after three rounds", 35, () -> Boards.board(PATH).settle());
    }

    // ---- "a set of fields with those that are drawn among them, that fills it"

    private static void waysWithFields() {
        PaddockFields x = Boards.board(Boards.TWO_WAYS);
        ways(x, "no field", 2);
        x.draw(0, 0, 1, 0);
        ways(x, "a field of one of them", 1);
        x.erase(0, 0);
        x.draw(5, 6, 5, 6);
        ways(x, "a field of both", 2);
        x.finish();
        ways(x, "all fields", 1);
        x.erase(5, 6);
        ways(x, "all but one", 1);
        x.write(5, 6, 0);
        ways(x, "a cell left without a number", 0);
        x.write(5, 6, 2);
        ways(x, "a cell left with a larger number", 0);
        x.write(5, 6, 1);
        ways(x, "a cell left with its number", 1);
    }

    private static void ways(PaddockFields x, String what, int due) {
        Check.due(what + ": by numbers", due, x::waysByNumbers);
        Check.due(what + ": by cells", due, x::waysByCells);
        Check.due(what + ": unique", due == 1, x::isUnique);
        Check.due(what + ": the first one", due > 0 ? "1" : Check.STATE, () -> x.sizeInFirst(5, 6));
    }

    // ---- "in the first cell whose fields are unlike, the way whose field comes first .. comes first"

    private static void orderOfWays() {
        // by the last row: the 2 of the first cell lies in the first way, and stands in the second one
        PaddockFields x = Boards.board(Boards.TWO_WAYS);
        Check.due("the first cell's field", "0 0 7 7", () -> cornersInFirst(x, 0, 1, 7, 8));
        x.draw(0, 0, 1, 0);
        Check.due("the second way", "0 1 0 1", () -> cornersInFirst(x, 0, 1, 7, 8));
        // the first row is alike in both ways, the last two cells of the board are not
        PaddockFields end = Boards.board("1111111", "1111111", "1111111", "1111111", "111112.", "11111.2");
        Check.due("the last cells' fields", "33 33 40 40", () -> cornersInFirst(end, 33, 34, 40, 41));
        // where the first cell lies, what is below stands or lies: the first such cell tells
        PaddockFields both = Boards.board("2.12.11", ".21.211", "1111111", "1111111", "1111111", "1111111");
        Check.due("two places", "0 0 7 7 3 3 10 10", () -> cornersInFirst(both, 0, 1, 7, 8, 3, 4, 10, 11));
        both.draw(0, 0, 1, 0);
        Check.due("the first one is drawn", "0 1 0 1 3 3 10 10", () -> cornersInFirst(both, 0, 1, 7, 8, 3, 4, 10, 11));
        // by the first row: of the cell below the first two
        PaddockFields three = Boards.board("2.2.111", ".2.2111", "1111111", "1111111", "1111111", "1111111");
        Check.due("five ways", 5, three::waysByCells);
        Check.due("all lie", "0 0 2 2 7 7 9 9", () -> cornersInFirst(three, 0, 1, 2, 3, 7, 8, 9, 10));
        three.draw(0, 0, 1, 0);
        Check.due("the first one stands", "0 1 1 3 0 8 8 3", () -> cornersInFirst(three, 0, 1, 2, 3, 7, 8, 9, 10));
    }

    private static String cornersInFirst(PaddockFields x, int... cells) {
        List<String> corners = new ArrayList<>();
        for (int cell : cells) {
            corners.add("" + x.cornerInFirst(cell / 7, cell % 7));
        }
        return String.join(" ", corners);
    }

    // ---- "the first rectangle of the list that has more than 6 cells is taken"

    private static void numbersBySeed() {
        int[] seen = new int[21];
        for (int seed = 0; seed < 1000000; seed += 1237) {
            PaddockFields x = new PaddockFields();
            int count = x.make(seed);
            Check.due("its numbers, seed " + seed, count, x::numbers);
            Check.due("their sum, seed " + seed, 42, x::sum);
            Check.due("they can be filled, seed " + seed, true, () -> x.waysByCells() > 0);
            for (int cell = 0; cell < 42; cell++) {
                seen[x.numberAt(cell / 7, cell % 7)]++;
            }
        }
        Check.due("some have 6 cells", true, () -> seen[6] > 0);
        Check.due("none has 7", 0, () -> seen[7]);
        for (int number = 8; number <= 20; number++) {
            int n = number;
            Check.due("none has " + n, 0, () -> seen[n]);
        }
    }

    // ---- "A row as a text has 7 characters, each a ".", .. a digit 1 to 9, or a letter "a" to "k" for 10 to 20"

    private static void textsOfRows() {
        String signs = ".123456789abcdefghijk";
        for (int code = 33; code <= 126; code++) {
            PaddockFields x = new PaddockFields();
            int c = code;
            Boards.type(x, "123");
            x.append(code);
            Boards.type(x, "567");
            boolean right = signs.indexOf(code) >= 0;
            Check.due("error at " + (char) c, right ? 7 : 3, x::firstError);
            Check.due("row with " + (char) c, right ? c == '.' ? "6" : "7" : Check.ARGUMENT, () -> x.writeRow(0));
            Check.due("number of " + (char) c, right ? signs.indexOf(c) : 0, () -> x.numberAt(0, 3));
        }
        for (int length = 0; length <= 60; length++) {
            PaddockFields x = new PaddockFields();
            Boards.type(x, ".".repeat(length));
            Check.due("a row of " + length, length == 7 ? "0" : Check.ARGUMENT, () -> x.writeRow(5));
        }
        PaddockFields x = new PaddockFields();
        Boards.type(x, "1234567");
        Check.due("a row of all", 7, () -> x.writeRow(5));
        Boards.type(x, "k.....1");
        Check.due("one with the ends alone", 2, () -> x.writeRow(5));
        Check.due("the first one", 20, () -> x.numberAt(5, 0));
        Check.due("in place of one", 0, () -> x.numberAt(5, 1));
        Check.due("the last one", 1, () -> x.numberAt(5, 6));
    }

    // ---- "a character is a syntax error if no row as a text begins with the characters before it and this character"

    private static void errorsByPlace() {
        for (int length = 0; length <= 60; length++) {
            PaddockFields x = new PaddockFields();
            Boards.type(x, "k".repeat(length));
            Check.due("none, or the eighth, of " + length, Math.min(length, 7), x::firstError);
        }
        for (int place = 0; place < 10; place++) {
            PaddockFields x = new PaddockFields();
            Boards.type(x, ".".repeat(place) + "0" + "..");
            Check.due("an error at " + place, Math.min(place, 7), x::firstError);
            Boards.type(x, "0");
            Check.due("the first one of two", Math.min(place, 7), x::firstError);
        }
    }

    // ---- "There are two slots; a snapshot is all but the buffer, the slots and the saved states"

    private static void slots() {
        PaddockFields x = Boards.board(Boards.SEVENS);
        x.draw(1, 0, 1, 6);
        x.keep(0);
        x.eraseAll();
        x.write(0, 0, 8);
        x.keep(1);
        Boards.type(x, "..k");
        Check.due("all states are saved", 6, x::savedStates);
        Check.dueDone("to slot 0", "done", () -> x.goBack(0));
        Check.due("its numbers and fields", "7 1", () -> x.numberAt(0, 0) + " " + x.fields());
        Check.due("the saved states are not its", 6, x::savedStates);
        Check.due("nor is the buffer", 4, () -> x.append('.'));
        x.write(5, 6, 20);
        x.erase(1, 0);
        Check.dueDone("to slot 0 once more", "done", () -> x.goBack(0));
        Check.due("it is not changed with the board", "7 1", () -> x.numberAt(5, 6) + " " + x.fields());
        x.keep(1);
        Check.dueDone("to slot 1", "done", () -> x.goBack(1));
        Check.due("a snapshot in place of one", "7 1", () -> x.numberAt(0, 0) + " " + x.fields());
        PaddockFields empty = new PaddockFields();
        empty.keep(1);
        Check.due("a snapshot of nothing saves nothing", 0, empty::savedStates);
        Boards.type(empty, "..");
        Check.dueDone("back to nothing", "done", () -> empty.goBack(1));
        Check.due("the slots are not its", 1, empty::savedStates);
        empty.undo();
        Check.dueDone("undo leaves the slots", "done", () -> empty.goBack(1));
        Check.due("undo leaves the buffer", 2, empty::clearBuffer);
    }

    // ---- "At most 6 states are saved; the oldest one is dropped first"

    private static void savedStates() {
        for (int writes = 0; writes <= 20; writes++) {
            PaddockFields x = new PaddockFields();
            for (int i = 1; i <= writes; i++) {
                x.write(3, 3, i);
            }
            int kept = Math.min(writes, 6);
            Check.due("saved of " + writes, kept, x::savedStates);
            for (int i = 1; i <= kept; i++) {
                int number = writes - i;
                Check.dueDone("undo " + i + " of " + writes, "done", x::undo);
                Check.due("undone " + i + " of " + writes, number, () -> x.numberAt(3, 3));
                Check.due("still saved of " + writes, kept - i, x::savedStates);
            }
            Check.dueDone("no more of " + writes, Check.STATE, x::undo);
        }
        PaddockFields x = new PaddockFields();
        for (int i = 1; i <= 8; i++) {
            x.write(0, 0, i);
        }
        x.undo();
        x.undo();
        x.write(0, 0, 11);
        x.write(0, 0, 12);
        x.write(0, 0, 13);
        StringBuilder numbers = new StringBuilder();
        while (x.savedStates() > 0) {
            x.undo();
            numbers.append(x.numberAt(0, 0)).append(' ');
        }
        Check.due("dropped and undone by turns", "12 11 6 5 4 3 ", numbers::toString);
    }

    // ---- "saves the state from before it, also if it changes nothing"

    private interface Change {
        void on(PaddockFields x);
    }

    private static void undoableCalls() {
        PaddockFields full = Boards.board(Boards.ONES);
        full.finish();
        saves("write of the number that is there", Boards.board(Boards.ONES), x -> x.write(3, 3, 1));
        saves("write of none where none is", new PaddockFields(), x -> x.write(3, 3, 0));
        PaddockFields made = new PaddockFields();
        made.make(5);
        saves("make of the numbers that are there", made, x -> x.make(5));
        saves("eraseAll of none", new PaddockFields(), PaddockFields::eraseAll);
        saves("settle of none", full, PaddockFields::settle);
        saves("finish of none", full, PaddockFields::finish);
        PaddockFields typed = Boards.board(Boards.ONES);
        Boards.type(typed, "1111111");
        saves("writeRow of the numbers that are there", typed, x -> x.writeRow(2));
        PaddockFields kept = Boards.board(Boards.ONES);
        kept.keep(0);
        saves("goBack to what is there", kept, x -> x.goBack(0));
        PaddockFields drawn = Boards.board(Boards.ONES);
        saves("draw", drawn, x -> x.draw(0, 0, 0, 0));
        saves("erase", full, x -> x.erase(0, 0));
        saves("eraseAll of all", full, PaddockFields::eraseAll);
        saves("make", full, x -> x.make(1));
        PaddockFields back = Boards.board(Boards.ONES);
        back.keep(1);
        back.make(2);
        back.settle();
        saves("goBack", back, x -> x.goBack(1));
        saves("settle", Boards.board(Boards.TWO_WAYS), PaddockFields::settle);
        saves("finish", Boards.board(Boards.TWO_WAYS), PaddockFields::finish);
    }

    /** With each state undone first, so that one more saved state can be counted. */
    private static void saves(String what, PaddockFields x, Change change) {
        x.keep(0);
        while (x.savedStates() > 0) {
            x.undo();
        }
        x.goBack(0);
        Check.due("one state before " + what, 1, x::savedStates);
        String before = Boards.rowsOf(x) + x.fields() + x.openCells();
        Check.dueDone(what, "done", () -> change.on(x));
        Check.due("one state more by " + what, 2, x::savedStates);
        Check.dueDone("undo of " + what, "done", x::undo);
        Check.due("as it was before " + what, before, () -> Boards.rowsOf(x) + x.fields() + x.openCells());
        Check.due("dropped after " + what, 1, x::savedStates);
    }

    // ---- "Each method that is marked "undoable" .. saves": no other one does

    private static void callsThatSaveNothing() {
        PaddockFields x = new PaddockFields();
        x.append('.');
        Check.due("append", 0, x::savedStates);
        x.firstError();
        Check.due("firstError", 0, x::savedStates);
        x.clearBuffer();
        Check.due("clearBuffer", 0, x::savedStates);
        x.keep(0);
        x.keep(1);
        Check.due("keep", 0, x::savedStates);
        x.write(0, 0, 1);
        x.undo();
        Check.due("undo", 0, x::savedStates);
        x.digest();
        Check.due("digest", 0, x::savedStates);
    }
}

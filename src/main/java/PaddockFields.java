/**
 * Paddock rectangles: a board of 6 rows and 7 columns that is divided into fields by one number each.
 * A cell is told as 7 times its row, and its column, together; a set of cells is a long with a bit for each cell.
 */
public final class PaddockFields {
    private static final int ROWS = 6;
    private static final int COLUMNS = 7;
    private static final int CELLS = 42;
    private static final int NO_CELL = 42;
    private static final long ALL_CELLS = (1L << CELLS) - 1L;
    private static final int HIGHEST_NUMBER = 20;
    private static final int HIGHEST_SEED = 999999;
    // 21 pairs of a first and a last row, 28 of a first and a last column
    private static final int MOST_RECTANGLES = 588;
    private static final int MOST_WAYS = 50;
    private static final int SLOTS = 2;
    private static final int MOST_SAVED = 6;
    private static final int LONGEST_TEXT = 60;
    private static final int LOWEST_CODE = 33;
    private static final int HIGHEST_CODE = 126;

    private static final int FREE = 0;
    private static final int REASON_FIELD = 1;
    private static final int REASON_NO_NUMBER = 2;
    private static final int REASON_MORE_NUMBERS = 3;
    private static final int REASON_OTHER_NUMBER = 4;

    private final Board board;
    private final Board bare;
    private final History history;
    private final InputText text;
    private final Maker maker;
    private final Rectangles rectangles;
    private final Steps steps;
    private final NumberSearch numberSearch;
    private final CellSearch cellSearch;

    public PaddockFields() {
        board = new Board();
        bare = new Board();
        history = new History();
        text = new InputText();
        maker = new Maker();
        // one list for all who look for rectangles, for it is the largest part of the object
        Rectangles shared = new Rectangles();
        rectangles = shared;
        steps = new Steps(shared);
        numberSearch = new NumberSearch(shared);
        cellSearch = new CellSearch(shared);
    }

    // ---- numbers

    public int write(int row, int column, int number)
            throws IndexOutOfBoundsException, IllegalArgumentException, IllegalStateException {
        int cell = checkedCell(row, column);
        if (number < 0 || number > HIGHEST_NUMBER) {
            throw new IllegalArgumentException("a number is 0 to 20");
        }
        if (board.hasField(cell)) {
            throw new IllegalStateException("the cell is in a field");
        }
        history.save(board);
        int before = board.numberIn(cell);
        board.setNumber(cell, number);
        return before;
    }

    public int make(int seed) throws IllegalArgumentException {
        if (seed < 0 || seed > HIGHEST_SEED) {
            throw new IllegalArgumentException("a seed is 0 to 999999");
        }
        history.save(board);
        maker.writeNumbers(board, seed);
        return Long.bitCount(board.cellsWithNumber());
    }

    // ---- fields

    public int draw(int top, int left, int bottom, int right)
            throws IndexOutOfBoundsException, IllegalStateException {
        checkRectangle(top, left, bottom, right);
        int first = cellAt(top, left);
        int last = cellAt(bottom, right);
        if (board.reason(first, last) != FREE) {
            throw new IllegalStateException("the rectangle can't be a field");
        }
        history.save(board);
        board.place(first, last);
        return Long.bitCount(board.cellsInFields());
    }

    public int erase(int row, int column) throws IndexOutOfBoundsException, IllegalStateException {
        int cell = checkedFieldCell(row, column);
        history.save(board);
        int size = board.sizeOfField(cell);
        board.removeField(cell);
        return size;
    }

    public int eraseAll() {
        history.save(board);
        int count = board.countFields();
        board.removeFields();
        return count;
    }

    public int settle() throws IllegalStateException {
        runWithoutContradiction();
        history.save(board);
        return steps.placeCertain(board);
    }

    public int finish() throws IllegalStateException {
        findFirstWay(board);
        history.save(board);
        int before = board.countFields();
        board.copy(cellSearch.firstWay());
        return board.countFields() - before;
    }

    // ---- texts

    public int append(int code) throws IllegalArgumentException, IllegalStateException {
        if (code < LOWEST_CODE || code > HIGHEST_CODE) {
            throw new IllegalArgumentException("a character code is 33 to 126");
        }
        if (text.length() >= LONGEST_TEXT) {
            throw new IllegalStateException("the buffer has 60 characters");
        }
        text.add(code);
        return text.length();
    }

    public int clearBuffer() {
        int before = text.length();
        text.clear();
        return before;
    }

    public int firstError() {
        return text.firstWrong();
    }

    public int writeRow(int row) throws IndexOutOfBoundsException, IllegalArgumentException, IllegalStateException {
        if (row < 0 || row >= ROWS) {
            throw new IndexOutOfBoundsException("there is no such row");
        }
        if (!text.tellsRow()) {
            throw new IllegalArgumentException("the buffer does not tell a row");
        }
        if (rowHasField(row)) {
            throw new IllegalStateException("a cell of the row is in a field");
        }
        history.save(board);
        int count = 0;
        for (int column = 0; column < COLUMNS; column++) {
            int number = text.numberFor(column);
            board.setNumber(cellAt(row, column), number);
            count += number > 0 ? 1 : 0;
        }
        text.clear();
        return count;
    }

    // ---- snapshots, undo

    public void keep(int slot) throws IllegalArgumentException {
        checkSlot(slot);
        history.store(slot, board);
    }

    public void goBack(int slot) throws IllegalArgumentException, IllegalStateException {
        checkSlot(slot);
        if (!history.hasSnapshot(slot)) {
            throw new IllegalStateException("there is no snapshot in the slot");
        }
        history.save(board);
        history.loadSnapshot(slot, board);
    }

    public void undo() throws IllegalStateException {
        if (history.countSaved() == 0) {
            throw new IllegalStateException("no state is saved");
        }
        history.loadLatest(board);
    }

    public int savedStates() {
        return history.countSaved();
    }

    // ---- the board as it is

    public int numberAt(int row, int column) throws IndexOutOfBoundsException {
        return board.numberIn(checkedCell(row, column));
    }

    public int numbers() {
        return Long.bitCount(board.cellsWithNumber());
    }

    public int sum() {
        return board.sumIn(ALL_CELLS);
    }

    public boolean isInField(int row, int column) throws IndexOutOfBoundsException {
        return board.hasField(checkedCell(row, column));
    }

    public int fieldSize(int row, int column) throws IndexOutOfBoundsException, IllegalStateException {
        return board.sizeOfField(checkedFieldCell(row, column));
    }

    public int cornerOf(int row, int column) throws IndexOutOfBoundsException, IllegalStateException {
        return board.firstOfField(checkedFieldCell(row, column));
    }

    public int fields() {
        return board.countFields();
    }

    public int openCells() {
        return countOpenCells();
    }

    public boolean isFull() {
        return board.cellsInFields() == ALL_CELLS;
    }

    public int reasonAgainst(int top, int left, int bottom, int right) throws IndexOutOfBoundsException {
        checkRectangle(top, left, bottom, right);
        return board.reason(cellAt(top, left), cellAt(bottom, right));
    }

    // ---- rectangles that are possible

    public int possibleFor(int row, int column) throws IndexOutOfBoundsException {
        int cell = checkedCell(row, column);
        rectangles.find(board);
        return rectangles.countOf(cell);
    }

    public int possibleAt(int row, int column, int place) throws IndexOutOfBoundsException {
        int cell = checkedCell(row, column);
        rectangles.find(board);
        if (place < 0 || place >= rectangles.countOf(cell)) {
            throw new IndexOutOfBoundsException("not so many rectangles are possible");
        }
        return rectangles.bothEnds(rectangles.indexOf(cell, place));
    }

    public int coveredBy(int row, int column) throws IndexOutOfBoundsException {
        int cell = checkedCell(row, column);
        rectangles.find(board);
        return rectangles.countOver(cell);
    }

    public int claimedBy(int row, int column) throws IndexOutOfBoundsException {
        int cell = checkedCell(row, column);
        rectangles.find(board);
        return rectangles.countOwnersOver(cell);
    }

    public int possible() {
        rectangles.find(board);
        return rectangles.size();
    }

    // ---- steps

    public int rounds() {
        steps.run(board);
        return steps.countRounds();
    }

    public int leftInTheEnd() {
        steps.run(board);
        return steps.countLeft();
    }

    public int leftFor(int row, int column) throws IndexOutOfBoundsException {
        int cell = checkedCell(row, column);
        steps.run(board);
        return steps.countLeftOf(cell);
    }

    public boolean isContradiction() {
        steps.run(board);
        return steps.endsInContradiction();
    }

    public int certain() throws IllegalStateException {
        runWithoutContradiction();
        return steps.countCertain();
    }

    public int hint() throws IllegalStateException {
        runWithoutContradiction();
        int cell = steps.firstCertain();
        if (cell == NO_CELL) {
            throw new IllegalStateException("no field is certain");
        }
        return cell;
    }

    // ---- ways to fill the board

    public int waysByNumbers() {
        return numberSearch.countWays(board);
    }

    public int waysByCells() {
        return cellSearch.countWays(board, MOST_WAYS);
    }

    public boolean isUnique() {
        return cellSearch.countWays(board, 2) == 1;
    }

    public int sizeInFirst(int row, int column) throws IndexOutOfBoundsException, IllegalStateException {
        int cell = checkedCell(row, column);
        findFirstWay(board);
        return cellSearch.firstWay().sizeOfField(cell);
    }

    public int cornerInFirst(int row, int column) throws IndexOutOfBoundsException, IllegalStateException {
        int cell = checkedCell(row, column);
        findFirstWay(board);
        return cellSearch.firstWay().firstOfField(cell);
    }

    public int strayFields() throws IllegalStateException {
        bare.copy(board);
        bare.removeFields();
        findFirstWay(bare);
        return board.countFieldsMissingIn(cellSearch.firstWay());
    }

    public double meanPossible() {
        rectangles.find(board);
        int open = Long.bitCount(board.openNumbers());
        return open > 0 ? (double) rectangles.size() / (double) open : 0.0;
    }

    public long digest() {
        Hash hash = new Hash();
        steps.run(board);
        for (int cell = 0; cell < CELLS; cell++) {
            addCell(hash, cell);
        }
        addTotals(hash);
        addWays(hash);
        hash.add(history.countSaved());
        hash.addBits(meanPossible());
        for (int slot = 0; slot < SLOTS; slot++) {
            hash.add(history.hasSnapshot(slot) ? 1 : 0);
        }
        hash.add(text.length());
        for (int i = 0; i < text.length(); i++) {
            hash.add(text.codeAt(i));
        }
        return hash.value();
    }

    private void addCell(Hash hash, int cell) {
        boolean inField = board.hasField(cell);
        hash.add(board.numberIn(cell));
        hash.add(inField ? board.sizeOfField(cell) + 1 : 0);
        hash.add(inField ? board.firstOfField(cell) + 1 : 0);
        hash.add(rectangles.countOf(cell));
        for (int i = 0; i < rectangles.size(); i++) {
            if (rectangles.ownerAt(i) == cell) {
                hash.add(rectangles.bothEnds(i));
            }
        }
        hash.add(rectangles.countOver(cell));
        hash.add(rectangles.countOwnersOver(cell));
        hash.add(steps.countLeftOf(cell));
    }

    private void addTotals(Hash hash) {
        hash.add(Long.bitCount(board.cellsWithNumber()));
        hash.add(board.sumIn(ALL_CELLS));
        hash.add(board.countFields());
        hash.add(countOpenCells());
        hash.add(rectangles.size());
        hash.add(steps.countRounds());
        hash.add(steps.countLeft());
        boolean contradiction = steps.endsInContradiction();
        int hinted = contradiction ? NO_CELL : steps.firstCertain();
        hash.add(contradiction ? 1 : 0);
        hash.add(contradiction ? 0 : steps.countCertain() + 1);
        hash.add(hinted == NO_CELL ? 0 : hinted + 1);
    }

    private void addWays(Hash hash) {
        hash.add(numberSearch.countWays(board));
        int ways = cellSearch.countWays(board, MOST_WAYS);
        hash.add(ways);
        if (ways > 0) {
            Board way = cellSearch.firstWay();
            for (int cell = 0; cell < CELLS; cell++) {
                hash.add(way.sizeOfField(cell));
                hash.add(way.firstOfField(cell));
            }
        }
    }

    private int countOpenCells() {
        return CELLS - Long.bitCount(board.cellsInFields());
    }

    private boolean rowHasField(int row) {
        for (int column = 0; column < COLUMNS; column++) {
            if (board.hasField(cellAt(row, column))) {
                return true;
            }
        }
        return false;
    }

    private int checkedFieldCell(int row, int column) {
        int cell = checkedCell(row, column);
        if (!board.hasField(cell)) {
            throw new IllegalStateException("the cell is in no field");
        }
        return cell;
    }

    private void runWithoutContradiction() {
        steps.run(board);
        if (steps.endsInContradiction()) {
            throw new IllegalStateException("there is a contradiction");
        }
    }

    private void findFirstWay(Board from) {
        if (cellSearch.countWays(from, 1) == 0) {
            throw new IllegalStateException("there is no way to fill the board");
        }
    }

    private static int checkedCell(int row, int column) {
        if (row < 0 || row >= ROWS || column < 0 || column >= COLUMNS) {
            throw new IndexOutOfBoundsException("there is no such cell");
        }
        return cellAt(row, column);
    }

    private static void checkRectangle(int top, int left, int bottom, int right) {
        if (top < 0 || bottom < top || bottom >= ROWS || left < 0 || right < left || right >= COLUMNS) {
            throw new IndexOutOfBoundsException("there is no such rectangle");
        }
    }

    private static void checkSlot(int slot) {
        if (slot < 0 || slot >= SLOTS) {
            throw new IllegalArgumentException("a slot is 0 or 1");
        }
    }

    private static int cellAt(int row, int column) {
        return row * COLUMNS + column;
    }

    private static boolean isCell(int cell) {
        return cell >= 0 && cell < CELLS;
    }

    private static long bit(int cell) {
        return cell >= 0 && cell < CELLS ? 1L << cell : 0L;
    }

    private static boolean has(long cells, int cell) {
        return (cells & bit(cell)) != 0L;
    }

    private static int lowestCell(long cells) {
        // as many ones are below the lowest one of the set as cells are before it
        return cells == 0L ? NO_CELL : Long.bitCount((cells & -cells) - 1L);
    }

    private static int rowsOf(int first, int last) {
        return last / COLUMNS - first / COLUMNS + 1;
    }

    private static int columnsOf(int first, int last) {
        return last % COLUMNS - first % COLUMNS + 1;
    }

    private static int sizeOf(int first, int last) {
        return rowsOf(first, last) * columnsOf(first, last);
    }

    private static boolean isInside(int cell, int first, int last) {
        int column = cell % COLUMNS;
        return cell >= first && cell <= last && column >= first % COLUMNS && column <= last % COLUMNS;
    }

    private static long cellsOf(int first, int last) {
        long cells = 0L;
        for (int cell = 0; cell < CELLS; cell++) {
            cells |= isInside(cell, first, last) ? bit(cell) : 0L;
        }
        return cells;
    }

    /** The numbers and the fields: what a snapshot and a saved state hold. */
    private static final class Board {
        private final int[] number;
        private final boolean[] inField;
        private final int[] first;
        private final int[] last;

        Board() {
            number = new int[CELLS];
            inField = new boolean[CELLS];
            first = new int[CELLS];
            last = new int[CELLS];
        }

        void copy(Board other) {
            if (other == null) {
                return;
            }
            for (int cell = 0; cell < CELLS; cell++) {
                number[cell] = other.number[cell];
                inField[cell] = other.inField[cell];
                first[cell] = other.first[cell];
                last[cell] = other.last[cell];
            }
        }

        int numberIn(int cell) {
            return isCell(cell) ? number[cell] : 0;
        }

        void setNumber(int cell, int value) {
            if (isCell(cell)) {
                number[cell] = value;
            }
        }

        void removeNumbers() {
            for (int cell = 0; cell < CELLS; cell++) {
                number[cell] = 0;
            }
        }

        boolean hasField(int cell) {
            return isCell(cell) && inField[cell];
        }

        int firstOfField(int cell) {
            return isCell(cell) ? first[cell] : 0;
        }

        int sizeOfField(int cell) {
            return isCell(cell) ? sizeOf(first[cell], last[cell]) : 0;
        }

        void place(int from, int to) {
            for (int cell = 0; cell < CELLS; cell++) {
                if (isInside(cell, from, to)) {
                    inField[cell] = true;
                    first[cell] = from;
                    last[cell] = to;
                }
            }
        }

        void removeField(int place) {
            int from = firstOfField(place);
            for (int cell = 0; cell < CELLS; cell++) {
                if (inField[cell] && first[cell] == from) {
                    inField[cell] = false;
                }
            }
        }

        void removeFields() {
            for (int cell = 0; cell < CELLS; cell++) {
                inField[cell] = false;
            }
        }

        int countFields() {
            int count = 0;
            for (int cell = 0; cell < CELLS; cell++) {
                count += isCorner(cell) ? 1 : 0;
            }
            return count;
        }

        int countFieldsMissingIn(Board other) {
            int count = 0;
            for (int cell = 0; cell < CELLS; cell++) {
                if (isCorner(cell) && !(other.isCorner(cell) && other.last[cell] == last[cell])) {
                    count++;
                }
            }
            return count;
        }

        private boolean isCorner(int cell) {
            return isCell(cell) && inField[cell] && first[cell] == cell;
        }

        long cellsInFields() {
            long cells = 0L;
            for (int cell = 0; cell < CELLS; cell++) {
                cells |= inField[cell] ? bit(cell) : 0L;
            }
            return cells;
        }

        long cellsWithNumber() {
            long cells = 0L;
            for (int cell = 0; cell < CELLS; cell++) {
                cells |= number[cell] != 0 ? bit(cell) : 0L;
            }
            return cells;
        }

        long openNumbers() {
            return cellsWithNumber() & ~cellsInFields();
        }

        int sumIn(long cells) {
            int total = 0;
            for (int cell = 0; cell < CELLS; cell++) {
                total += has(cells, cell) ? number[cell] : 0;
            }
            return total;
        }

        boolean addsUp() {
            long open = ALL_CELLS & ~cellsInFields();
            return sumIn(open) == Long.bitCount(open);
        }

        int reason(int from, int to) {
            long cells = cellsOf(from, to);
            int found = Long.bitCount(cells & cellsWithNumber());
            if ((cells & cellsInFields()) != 0L) {
                return REASON_FIELD;
            }
            if (found == 0) {
                return REASON_NO_NUMBER;
            }
            if (found > 1) {
                return REASON_MORE_NUMBERS;
            }
            return sumIn(cells) == sizeOf(from, to) ? FREE : REASON_OTHER_NUMBER;
        }
    }

    /** The two slots, and the states that undo goes back to. */
    private static final class History {
        private final Board[] saved;
        private final Board[] snapshot;
        private final boolean[] filled;
        private int count;

        History() {
            saved = new Board[MOST_SAVED];
            for (int i = 0; i < MOST_SAVED; i++) {
                saved[i] = new Board();
            }
            snapshot = new Board[SLOTS];
            for (int slot = 0; slot < SLOTS; slot++) {
                snapshot[slot] = new Board();
            }
            filled = new boolean[SLOTS];
            count = 0;
        }

        int countSaved() {
            return count;
        }

        void save(Board board) {
            if (count >= MOST_SAVED) {
                dropOldest();
            }
            if (count >= 0 && count < MOST_SAVED && saved[count] != null) {
                saved[count].copy(board);
                count++;
            }
        }

        private void dropOldest() {
            // the oldest board goes behind the others, so that no new one need be made
            Board oldest = saved[0];
            for (int i = 1; i < MOST_SAVED; i++) {
                saved[i - 1] = saved[i];
            }
            saved[MOST_SAVED - 1] = oldest;
            count = MOST_SAVED - 1;
        }

        void loadLatest(Board board) {
            if (count > 0 && count <= MOST_SAVED) {
                count--;
                board.copy(saved[count]);
            }
        }

        boolean hasSnapshot(int slot) {
            return slot >= 0 && slot < SLOTS && filled[slot];
        }

        void store(int slot, Board board) {
            if (slot >= 0 && slot < SLOTS && snapshot[slot] != null) {
                snapshot[slot].copy(board);
                filled[slot] = true;
            }
        }

        void loadSnapshot(int slot, Board board) {
            if (hasSnapshot(slot)) {
                board.copy(snapshot[slot]);
            }
        }
    }

    /** The buffer of characters. */
    private static final class InputText {
        private final int[] codes;
        private int length;

        InputText() {
            codes = new int[LONGEST_TEXT];
            length = 0;
        }

        int length() {
            return length;
        }

        void add(int code) {
            if (length >= 0 && length < LONGEST_TEXT) {
                codes[length] = code;
                length++;
            }
        }

        void clear() {
            length = 0;
        }

        int codeAt(int index) {
            return index >= 0 && index < LONGEST_TEXT ? codes[index] : 0;
        }

        int numberFor(int column) {
            return numberOf(codeAt(column));
        }

        int firstWrong() {
            for (int i = 0; i < length; i++) {
                if (i >= COLUMNS || numberFor(i) < 0) {
                    return i;
                }
            }
            return length;
        }

        boolean tellsRow() {
            return length == COLUMNS && firstWrong() == COLUMNS;
        }

        private static int numberOf(int code) {
            if (code == '.') {
                return 0;
            }
            if (code >= '1' && code <= '9') {
                return code - '0';
            }
            return code >= 'a' && code <= 'k' ? code - 'a' + 10 : -1;
        }
    }

    /** Makes numbers by a seed. */
    private static final class Maker {
        private static final int LARGEST = 6;

        private final int[] first;
        private final int[] last;
        private int count;
        private long x;

        Maker() {
            first = new int[CELLS];
            last = new int[CELLS];
            count = 0;
            x = 0L;
        }

        void writeNumbers(Board board, int seed) {
            board.removeFields();
            board.removeNumbers();
            x = seed;
            count = 0;
            put(0, CELLS - 1);
            cutAll();
            for (int i = 0; i < count && i < CELLS; i++) {
                int size = sizeOf(first[i], last[i]);
                board.setNumber(cellInside(first[i], last[i], drawBelow(size)), size);
            }
        }

        private void cutAll() {
            // each cut makes one rectangle more, and there are no more of them than cells
            for (int turn = 0; turn < CELLS; turn++) {
                int large = firstLarge();
                if (large < 0) {
                    return;
                }
                cut(large);
            }
        }

        private int firstLarge() {
            for (int i = 0; i < count && i < CELLS; i++) {
                if (sizeOf(first[i], last[i]) > LARGEST) {
                    return i;
                }
            }
            return -1;
        }

        private void cut(int i) {
            if (i < 0 || i >= CELLS) {
                return;
            }
            int from = first[i];
            int to = last[i];
            int rows = rowsOf(from, to);
            int columns = columnsOf(from, to);
            if (rows > columns) {
                int part = drawBelow(rows - 1) + 1;
                last[i] = cellAt(from / COLUMNS + part - 1, to % COLUMNS);
                put(from + part * COLUMNS, to);
            } else {
                int part = drawBelow(columns - 1) + 1;
                last[i] = cellAt(to / COLUMNS, from % COLUMNS + part - 1);
                put(from + part, to);
            }
        }

        private void put(int from, int to) {
            if (count >= 0 && count < CELLS) {
                first[count] = from;
                last[count] = to;
                count++;
            }
        }

        private int drawBelow(int n) {
            x = (x * 1103515245L + 12345L) % 2147483648L;
            return n > 0 ? (int) ((x / 65536L) % n) : 0;
        }

        private static int cellInside(int from, int to, int place) {
            int columns = columnsOf(from, to);
            return columns > 0 ? from + place / columns * COLUMNS + place % columns : from;
        }
    }

    /** The rectangles that are possible on a board, in order; the owner of one is the cell of its number. */
    private static final class Rectangles {
        private final int[] everyFirst;
        private final int[] everyLast;
        private final long[] everyCells;
        private final int[] first;
        private final int[] last;
        private final long[] cells;
        private final int[] owner;
        private int count;

        Rectangles() {
            everyFirst = new int[MOST_RECTANGLES];
            everyLast = new int[MOST_RECTANGLES];
            everyCells = new long[MOST_RECTANGLES];
            first = new int[MOST_RECTANGLES];
            last = new int[MOST_RECTANGLES];
            cells = new long[MOST_RECTANGLES];
            owner = new int[MOST_RECTANGLES];
            count = 0;
            int next = 0;
            for (int from = 0; from < CELLS; from++) {
                for (int to = from; to < CELLS && next < MOST_RECTANGLES; to++) {
                    if (to % COLUMNS >= from % COLUMNS) {
                        everyFirst[next] = from;
                        everyLast[next] = to;
                        everyCells[next] = cellsOf(from, to);
                        next++;
                    }
                }
            }
        }

        void find(Board board) {
            long taken = board.cellsInFields();
            long numbered = board.cellsWithNumber();
            count = 0;
            for (int i = 0; i < MOST_RECTANGLES; i++) {
                long inside = everyCells[i] & numbered;
                if ((everyCells[i] & taken) == 0L && Long.bitCount(inside) == 1) {
                    int cell = lowestCell(inside);
                    if (board.numberIn(cell) == Long.bitCount(everyCells[i])) {
                        put(i, cell);
                    }
                }
            }
        }

        private void put(int i, int cell) {
            if (i >= 0 && i < MOST_RECTANGLES && count >= 0 && count < MOST_RECTANGLES) {
                first[count] = everyFirst[i];
                last[count] = everyLast[i];
                cells[count] = everyCells[i];
                owner[count] = cell;
                count++;
            }
        }

        int size() {
            return count;
        }

        int firstAt(int i) {
            return i >= 0 && i < count && i < MOST_RECTANGLES ? first[i] : NO_CELL;
        }

        int lastAt(int i) {
            return i >= 0 && i < count && i < MOST_RECTANGLES ? last[i] : NO_CELL;
        }

        long cellsAt(int i) {
            return i >= 0 && i < count && i < MOST_RECTANGLES ? cells[i] : 0L;
        }

        int ownerAt(int i) {
            return i >= 0 && i < count && i < MOST_RECTANGLES ? owner[i] : NO_CELL;
        }

        long cellsInReach(long covered) {
            long reach = 0L;
            for (int i = 0; i < count; i++) {
                long inside = cellsAt(i);
                reach |= (inside & covered) == 0L ? inside : 0L;
            }
            return reach;
        }

        int bothEnds(int i) {
            return firstAt(i) * CELLS + lastAt(i);
        }

        int countOf(int cell) {
            int found = 0;
            for (int i = 0; i < count; i++) {
                found += ownerAt(i) == cell ? 1 : 0;
            }
            return found;
        }

        int indexOf(int cell, int place) {
            int found = 0;
            for (int i = 0; i < count; i++) {
                if (ownerAt(i) == cell) {
                    if (found == place) {
                        return i;
                    }
                    found++;
                }
            }
            return -1;
        }

        int countOver(int cell) {
            int found = 0;
            for (int i = 0; i < count; i++) {
                found += has(cellsAt(i), cell) ? 1 : 0;
            }
            return found;
        }

        int countOwnersOver(int cell) {
            long owners = 0L;
            for (int i = 0; i < count; i++) {
                owners |= has(cellsAt(i), cell) ? bit(ownerAt(i)) : 0L;
            }
            return Long.bitCount(owners);
        }
    }

    /** Rules rectangles out, round by round. */
    private static final class Steps {
        private final Rectangles list;
        private final boolean[] left;
        // by the cell of a number: the cells that are in some, and in all, of the rectangles left for it
        private final long[] inSome;
        private final long[] inAll;
        private long numbers;
        private long open;
        private int roundsDone;

        Steps(Rectangles rectangles) {
            list = rectangles;
            left = new boolean[MOST_RECTANGLES];
            inSome = new long[CELLS];
            inAll = new long[CELLS];
            numbers = 0L;
            open = 0L;
            roundsDone = 0;
        }

        void run(Board board) {
            list.find(board);
            open = ALL_CELLS & ~board.cellsInFields();
            numbers = board.openNumbers();
            for (int i = 0; i < MOST_RECTANGLES; i++) {
                left[i] = i < list.size();
            }
            roundsDone = 0;
            while (roundsDone <= MOST_RECTANGLES && ruleOut()) {
                roundsDone++;
            }
        }

        private boolean ruleOut() {
            look();
            long ofOneNumber = inJustOne(inSome);
            long neededByOne = inJustOne(inAll);
            long needed = inAny(inAll);
            boolean changed = false;
            for (int i = 0; i < MOST_RECTANGLES; i++) {
                int cell = list.ownerAt(i);
                if (left[i] && isCell(cell)) {
                    long missed = ofOneNumber & inSome[cell] & ~list.cellsAt(i);
                    long neededByOthers = needed & ~(neededByOne & inAll[cell]);
                    if (missed != 0L || (neededByOthers & list.cellsAt(i)) != 0L) {
                        left[i] = false;
                        changed = true;
                    }
                }
            }
            return changed;
        }

        private void look() {
            for (int cell = 0; cell < CELLS; cell++) {
                inSome[cell] = 0L;
                inAll[cell] = ALL_CELLS;
            }
            for (int i = 0; i < MOST_RECTANGLES; i++) {
                int cell = list.ownerAt(i);
                if (left[i] && isCell(cell)) {
                    inSome[cell] |= list.cellsAt(i);
                    inAll[cell] &= list.cellsAt(i);
                }
            }
            for (int cell = 0; cell < CELLS; cell++) {
                // without any left, no cell is needed
                inAll[cell] &= inSome[cell];
            }
        }

        private static long inAny(long[] sets) {
            long any = 0L;
            for (int i = 0; i < sets.length; i++) {
                any |= sets[i];
            }
            return any;
        }

        private static long inJustOne(long[] sets) {
            long any = 0L;
            long more = 0L;
            for (int i = 0; i < sets.length; i++) {
                more |= any & sets[i];
                any |= sets[i];
            }
            return any & ~more;
        }

        int countRounds() {
            return roundsDone;
        }

        int countLeft() {
            int found = 0;
            for (int i = 0; i < MOST_RECTANGLES; i++) {
                found += left[i] ? 1 : 0;
            }
            return found;
        }

        int countLeftOf(int cell) {
            int found = 0;
            for (int i = 0; i < MOST_RECTANGLES; i++) {
                found += left[i] && list.ownerAt(i) == cell ? 1 : 0;
            }
            return found;
        }

        boolean endsInContradiction() {
            for (int cell = 0; cell < CELLS; cell++) {
                if (has(numbers, cell) && inSome[cell] == 0L) {
                    return true;
                }
            }
            return inAny(inSome) != open;
        }

        int countCertain() {
            int found = 0;
            for (int cell = 0; cell < CELLS; cell++) {
                found += countLeftOf(cell) == 1 ? 1 : 0;
            }
            return found;
        }

        int firstCertain() {
            for (int cell = 0; cell < CELLS; cell++) {
                if (countLeftOf(cell) == 1) {
                    return cell;
                }
            }
            return NO_CELL;
        }

        int placeCertain(Board board) {
            int placed = 0;
            for (int i = 0; i < MOST_RECTANGLES; i++) {
                if (left[i] && countLeftOf(list.ownerAt(i)) == 1) {
                    board.place(list.firstAt(i), list.lastAt(i));
                    placed++;
                }
            }
            return placed;
        }
    }

    /** Counts the ways to fill a board, number by number. */
    private static final class NumberSearch {
        private final Rectangles list;
        private final int[] choices;
        private long numbers;
        private int ways;

        NumberSearch(Rectangles rectangles) {
            list = rectangles;
            choices = new int[CELLS];
            numbers = 0L;
            ways = 0;
        }

        int countWays(Board board) {
            list.find(board);
            numbers = board.openNumbers();
            ways = 0;
            if (board.addsUp()) {
                fill(board.cellsInFields(), 0);
            }
            return ways;
        }

        private void fill(long covered, int depth) {
            if (covered == ALL_CELLS) {
                ways++;
            } else if (depth < CELLS && list.cellsInReach(covered) == (ALL_CELLS & ~covered)) {
                fillFor(scarcest(covered), covered, depth);
            }
        }

        private void fillFor(int cell, long covered, int depth) {
            for (int i = 0; i < list.size() && ways < MOST_WAYS; i++) {
                long cells = list.cellsAt(i);
                if (list.ownerAt(i) == cell && (cells & covered) == 0L) {
                    fill(covered | cells, depth + 1);
                }
            }
        }

        private int scarcest(long covered) {
            countChoices(covered);
            int best = NO_CELL;
            int fewest = MOST_RECTANGLES + 1;
            for (int cell = 0; cell < CELLS; cell++) {
                if (has(numbers & ~covered, cell) && choices[cell] < fewest) {
                    best = cell;
                    fewest = choices[cell];
                }
            }
            return best;
        }

        private void countChoices(long covered) {
            for (int cell = 0; cell < CELLS; cell++) {
                choices[cell] = 0;
            }
            for (int i = 0; i < list.size(); i++) {
                int cell = list.ownerAt(i);
                if (isCell(cell) && (list.cellsAt(i) & covered) == 0L) {
                    choices[cell]++;
                }
            }
        }
    }

    /** Counts the ways to fill a board, cell by cell, in their order, and keeps the first one. */
    private static final class CellSearch {
        private final Rectangles list;
        private final int[] chosen;
        private final Board way;
        private int limit;
        private int ways;

        CellSearch(Rectangles rectangles) {
            list = rectangles;
            chosen = new int[CELLS];
            way = new Board();
            limit = 0;
            ways = 0;
        }

        int countWays(Board board, int most) {
            list.find(board);
            way.copy(board);
            limit = most;
            ways = 0;
            if (board.addsUp()) {
                fill(board.cellsInFields(), 0);
            }
            return ways;
        }

        Board firstWay() {
            return way;
        }

        private void fill(long covered, int depth) {
            if (covered == ALL_CELLS) {
                if (ways == 0) {
                    placeChosen(depth);
                }
                ways++;
            } else if (depth < CELLS && list.cellsInReach(covered) == (ALL_CELLS & ~covered)) {
                fillFrom(lowestCell(ALL_CELLS & ~covered), covered, depth);
            }
        }

        private void fillFrom(int cell, long covered, int depth) {
            for (int i = 0; i < list.size() && ways < limit; i++) {
                long cells = list.cellsAt(i);
                if (list.firstAt(i) == cell && (cells & covered) == 0L && depth >= 0 && depth < CELLS) {
                    chosen[depth] = i;
                    fill(covered | cells, depth + 1);
                }
            }
        }

        private void placeChosen(int depth) {
            for (int i = 0; i < depth && i < CELLS; i++) {
                way.place(list.firstAt(chosen[i]), list.lastAt(chosen[i]));
            }
        }
    }

    /** The hash of a list of values. */
    private static final class Hash {
        private static final long TWO_TO_52 = 1L << 52;
        private static final int MOST_HALVINGS = 1100;

        private long value;

        Hash() {
            value = 4421L;
        }

        long value() {
            return value;
        }

        void add(long v) {
            value = 31L * value + v;
        }

        void addBits(double mean) {
            add(bitsOf(mean));
        }

        // what Double.doubleToLongBits, which is not in the language, answers for 0 and what is above
        private static long bitsOf(double mean) {
            if (!(mean > 0.0)) {
                return 0L;
            }
            double rest = mean;
            long exponent = 1023L;
            for (int i = 0; i < MOST_HALVINGS && rest >= 2.0; i++) {
                rest = rest / 2.0;
                exponent++;
            }
            for (int i = 0; i < MOST_HALVINGS && rest < 1.0; i++) {
                rest = rest * 2.0;
                exponent--;
            }
            return (exponent << 52) | (long) ((rest - 1.0) * (double) TWO_TO_52);
        }
    }
}

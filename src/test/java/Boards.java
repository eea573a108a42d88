/** Boards for the tests, written as rows of text, and what tests read of an object. */
final class Boards {
    static final String[] ONES = {"1111111", "1111111", "1111111", "1111111", "1111111", "1111111"};
    /** The unique way has each row as a field. */
    static final String[] SEVENS = {"7......", ".7.....", "..7....", "...7...", "....7..", "......7"};
    /** The upper left corner is two fields side by side, or one above the other. */
    static final String[] TWO_WAYS = {"2.11111", ".211111", "1111111", "1111111", "1111111", "1111111"};
    /** In the first row the left 2 may take two rectangles, until one of them is ruled out. */
    static final String[] ONE_ROUND = {".2.2111", "1111111", "1111111", "1111111", "1111111", "1111111"};
    /** One cell is in no rectangle, though each number has one. */
    static final String[] HOLE = {"1111111", "1111111", "111.111", "1111111", "1111111", "1111111"};
    /** A 3 that has no rectangle. */
    static final String[] BLOCKED = {"1111111", "1111111", "1113111", "1111111", "1111111", "1111111"};
    static final String[] MANY = {"2.2.2.2", ".2.2.2.", "2.2.2.2", ".2.2.2.", "2.2.2.2", ".2.2.2."};

    private Boards() {
    }

    static PaddockFields board(String... rows) {
        PaddockFields x = new PaddockFields();
        writeRows(x, rows);
        return x;
    }

    /** Writes rows from the first one on; the buffer has to be empty, and these rows without fields. */
    static void writeRows(PaddockFields x, String... rows) {
        for (int row = 0; row < rows.length; row++) {
            type(x, rows[row]);
            x.writeRow(row);
        }
    }

    static void type(PaddockFields x, String text) {
        for (int i = 0; i < text.length(); i++) {
            x.append(text.charAt(i));
        }
    }

    static String rowsOf(PaddockFields x) {
        StringBuilder rows = new StringBuilder();
        for (int cell = 0; cell < 42; cell++) {
            rows.append(cell > 0 && cell % 7 == 0 ? "/" : "");
            rows.append(".123456789abcdefghijk".charAt(x.numberAt(cell / 7, cell % 7)));
        }
        return rows.toString();
    }

    /** What possibleAt answers for a rectangle. */
    static int code(int top, int left, int bottom, int right) {
        return 42 * (7 * top + left) + 7 * bottom + right;
    }
}

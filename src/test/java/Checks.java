/** Counts answers that are as due and prints those that are not. */
final class Checks {
    private int passed = 0;
    private int failed = 0;

    void due(String what, long got, long want) {
        if (got == want) {
            passed++;
            return;
        }
        failed++;
        System.out.println(what + " answered " + got + ", due is " + want);
    }

    void due(String what, boolean holds) {
        due(what, holds ? 1 : 0, 1);
    }

    /** Says how it went; the exit code is 1 if an answer was not as due. */
    void end() {
        System.out.println(passed + " passed, " + failed + " failed");
        if (failed != 0 || passed == 0) {
            System.exit(1);
        }
    }

    /** Puts a text into a new row of a sheet. */
    static void write(ActRows x, int sheet, int lane, String text) {
        x.sheet(sheet, lane, text.length());
        put(x, sheet, 0, text);
    }

    /** Puts a text into the cells of a sheet from a place on. */
    static void put(ActRows x, int sheet, int from, String text) {
        for (int i = 0; i < text.length(); i++) {
            x.put(sheet, from + i, text.charAt(i));
        }
    }

    /** Puts numbers into a new row of a sheet. */
    static void write(ActRows x, int sheet, int lane, int... numbers) {
        x.sheet(sheet, lane, numbers.length);
        for (int i = 0; i < numbers.length; i++) {
            x.put(sheet, i, numbers[i]);
        }
    }

    /** What program answers to a text, by way of sheet 0, which has nothing behind it. */
    static int take(ActRows x, String text) {
        write(x, 0, 2, text);
        int answer = x.program(0, 2, 0, text.length());
        x.lose(0);
        return answer;
    }

    /** A new object with a program. */
    static ActRows with(String text) {
        ActRows x = new ActRows();
        if (take(x, text) < 1) {
            throw new IllegalStateException(text);
        }
        return x;
    }
}

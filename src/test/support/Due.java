/**
 * Compares answers with what is due, and prints each that is not. A test extends it, because names
 * of a class without a package can't be imported.
 */
abstract class Due {
    static final int NORMAL = 0;
    static final int CHANGING = 1;
    static final int RECOVERING = 2;
    static final int DOWN = 3;

    static final int PREPARE = 1;
    static final int OK = 2;
    static final int FETCH = 3;
    static final int STATE = 4;
    static final int CHANGE = 5;
    static final int PAPER = 6;
    static final int RECOVERY = 7;
    static final int RESPONSE = 8;

    static final int MIN = Integer.MIN_VALUE;
    static final int MAX = Integer.MAX_VALUE;

    private static int wrong = 0;

    static void due(String what, long got, long want) {
        if (got != want) {
            isWrong(what + " answered " + got + ", due is " + want);
        }
    }

    static void due(String what, boolean got, boolean want) {
        if (got != want) {
            isWrong(what + " answered " + got + ", due is " + want);
        }
    }

    static void dueText(String what, String got, String want) {
        if (!got.equals(want)) {
            isWrong(what + ": there is\n" + got + "due is\n" + want);
        }
    }

    static void isWrong(String what) {
        wrong++;
        System.out.println(what);
    }

    /** The answer of message for such a message. */
    static int letter(int kind, int sender, int addressee, int view) {
        return kind + 16 * sender + 128 * addressee + 1024 * view;
    }

    /** Ends a test, with exit code 1 if an answer was not as due. */
    static void end() {
        System.out.println(wrong == 0 ? "all answers are as due" : wrong + " answers are not as due");
        if (wrong != 0) {
            System.exit(1);
        }
    }
}

/** Counts the answers that are not as due, and ends a test by them. */
final class Due {
    private int wrong;

    void is(String call, int due, int got) {
        if (got != due) {
            wrong++;
            System.out.println(call + " answered " + got + ", due is " + due);
        }
    }

    void isTrue(String what, boolean so) {
        if (!so) {
            wrong++;
            System.out.println(what + ": is not so");
        }
    }

    void end() {
        System.out.println(wrong == 0 ? "all answers are as due" : wrong + " answers are not as due");
        if (wrong != 0) {
            System.exit(1);
        }
    }
}

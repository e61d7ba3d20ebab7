/** Cases, each of one sentence of the document. */
final class Cases {
    private static final int PROMISES = 15;

    private final int[] many = new int[PROMISES + 1];
    private int wrong;
    private boolean broken;

    interface Case {
        void run();
    }

    /** Runs one case; promise is the number that the document gives. */
    void test(int promise, String sentence, Case one) {
        many[promise]++;
        broken = false;
        one.run();
        if (broken) {
            System.out.println("  promise " + promise + " is broken: " + sentence);
        }
    }

    void is(String call, int due, int got) {
        if (got != due) {
            fault(call + " answered " + got + ", due is " + due);
        }
    }

    void is(String what, String due, String got) {
        if (!got.equals(due)) {
            fault(what + " is\n    " + got + "\n  due is\n    " + due);
        }
    }

    void isTrue(String what, boolean so) {
        if (!so) {
            fault(what + ": is not so");
        }
    }

    private void fault(String text) {
        wrong++;
        broken = true;
        System.out.println(text);
    }

    /** Ends the test: each promise from first to last must have had a case. */
    void end(int first, int last) {
        int sum = 0;
        for (int promise = first; promise <= last; promise++) {
            sum += many[promise];
            isTrue("promise " + promise + " has cases", many[promise] > 0);
        }
        System.out.println(sum + " cases, " + wrong + " answers are not as due");
        if (wrong != 0) {
            System.exit(1);
        }
    }
}

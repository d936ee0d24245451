import java.util.function.Consumer;

/** Counts answers that are not as due, prints them, and ends the test. */
final class Check {
    private static final int MOST_PRINTED = 50;

    private int looked;
    private int wrong;

    /** The test of one sentence of the document, which is named if an answer is not as due. */
    void sentence(String sentence, Runnable test) {
        int lookedBefore = looked;
        int wrongBefore = wrong;
        try {
            test.run();
        } catch (RuntimeException e) {
            fault("a call threw " + e);
        }
        // A test that looks at nothing proves nothing.
        if (looked == lookedBefore) {
            fault("nothing was looked at");
        }
        if (wrong != wrongBefore) {
            System.out.println("NOT HELD: " + sentence);
        }
    }

    private void fault(String text) {
        wrong++;
        if (wrong <= MOST_PRINTED) {
            System.out.println(text);
        }
    }

    void same(String what, long got, long due) {
        looked++;
        if (got != due) {
            fault(what + " answered " + got + ", due is " + due);
        }
    }

    void same(String what, String got, String due) {
        looked++;
        if (!got.equals(due)) {
            fault(what + " answered\n" + got + "\ndue is\n" + due);
        }
    }

    void isTrue(String what, boolean got) {
        same(what, got ? 1 : 0, 1);
    }

    /** The call throws just what is due, and nothing that can be asked of the object is another thing behind it. */
    void refuses(String what, Class<? extends RuntimeException> due, FaxPages pages, Consumer<FaxPages> call) {
        String before = Pages.state(pages);
        String got = "nothing";
        try {
            call.accept(pages);
        } catch (RuntimeException e) {
            got = e.getClass().getName();
        }
        same(what + " throws", got, due.getName());
        same(what + " changes nothing: state", Pages.state(pages), before);
    }

    /** Reading answers why it can't be, and nothing that can be asked of the object is another thing behind it. */
    void readRefuses(String what, FaxPages pages, int due) {
        String before = Pages.state(pages);
        same(what + ": read", pages.read(), due);
        same(what + " changes nothing: state", Pages.state(pages), before);
    }

    void end() {
        System.out.println(looked + " answers, " + wrong + " not as due");
        if (wrong != 0 || looked == 0) {
            System.exit(1);
        }
    }
}

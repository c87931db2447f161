/** Compares answers with those that are due, and ends the program with 1 if one is another. */
final class Due {
    private static final int SECONDS = 300;

    private final String test;
    private String sentence = "";
    private long compared = 0;
    private int wrong = 0;

    Due(String test) {
        this.test = test;
        watch(test);
    }

    /** A call that does not end fails its test too: a test needs some seconds. */
    private static void watch(String test) {
        Thread watcher = new Thread(() -> {
            try {
                Thread.sleep(SECONDS * 1000L);
            } catch (InterruptedException e) {
                return;
            }
            System.out.println(test + ": has not ended after " + SECONDS + " seconds");
            Runtime.getRuntime().halt(1);
        });
        watcher.setDaemon(true);
        watcher.start();
    }

    /** The document's sentence that the answers from here on are about, told with each wrong one. */
    void about(String sentence) {
        this.sentence = sentence + ": ";
    }

    void is(String call, long got, long want) {
        compared++;
        if (got != want) {
            wrong++;
            if (wrong <= 20) {
                System.out.println(test + ": " + sentence + call + " answered " + got + ", due is " + want);
            }
        }
    }

    void holds(String what, boolean fact) {
        is(what, fact ? 1 : 0, 1);
    }

    boolean allRight() {
        return wrong == 0;
    }

    void end() {
        System.out.println(test + ": " + compared + " answers compared, " + wrong + " wrong");
        if (wrong != 0 || compared == 0) {
            System.exit(1);
        }
    }
}

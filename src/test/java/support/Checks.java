package support;

/** Counts answers that are not as due, and ends a test that has any with exit code 1. */
public final class Checks {
    private static final int SHOWN = 40;

    private int asked = 0;
    private int wrong = 0;
    private String topic = "";

    public void about(String newTopic) {
        topic = newTopic;
    }

    public void due(String call, long got, long want) {
        asked++;
        if (got != want) {
            wrong++;
            if (wrong <= SHOWN) {
                System.out.println(topic + ": " + call + " answered " + got + ", due is " + want);
            }
        }
    }

    public void due(String call, boolean got, boolean want) {
        due(call, got ? 1 : 0, want ? 1 : 0);
    }

    public void finish() {
        System.out.println(asked + " answers, " + wrong + " not as due");
        if (wrong > 0 || asked == 0) {
            System.exit(1);
        }
    }
}

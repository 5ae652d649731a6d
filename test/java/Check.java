/** Counts and prints the answers that are not the ones due. */
final class Check {
    private final String title;
    private int looked = 0;
    private int wrong = 0;

    Check(String title) {
        this.title = title;
    }

    void due(String call, long got, long want) {
        tell(call, got == want, String.valueOf(got), String.valueOf(want));
    }

    void due(String call, boolean got, boolean want) {
        tell(call, got == want, String.valueOf(got), String.valueOf(want));
    }

    /** -0 is not taken for 0 here. */
    void due(String call, double got, double want) {
        tell(call, Double.doubleToRawLongBits(got) == Double.doubleToRawLongBits(want),
                String.valueOf(got), String.valueOf(want));
    }

    private void tell(String call, boolean right, String got, String want) {
        looked++;
        if (!right) {
            wrong++;
            if (wrong <= 40) {
                System.out.println(title + ": " + call + " answered " + got + ", due is " + want);
            }
        }
    }

    int wrongs() {
        return wrong;
    }

    void end() {
        System.out.println(title + ": " + looked + " answers looked at, " + wrong + " not as due");
        if (wrong != 0 || looked == 0) {
            System.exit(1);
        }
    }
}

/** Compares answers with those due, and counts and prints those that are not so. */
final class Dues {
    private int checked = 0;
    private int wrong = 0;

    void due(String call, long got, long want) {
        checked++;
        if (got != want) {
            wrong++;
            System.out.println(call + " answered " + got + ", due is " + want);
        }
    }

    void end() {
        System.out.println(checked + " answers looked at, " + wrong + " not as due");
        if (wrong != 0 || checked == 0) {
            System.exit(1);
        }
    }
}

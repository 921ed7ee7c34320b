/** What the tests of the promises share: counting wrong answers, and a few years to begin with. */
final class Check {
    private int wrong;
    private int asked;
    private final String name;

    Check(String name) {
        this.name = name;
    }

    void due(String call, long got, long want) {
        asked++;
        if (got != want) {
            wrong++;
            System.out.println(name + ": " + call + " answered " + got + ", due is " + want);
        }
    }

    void due(String call, boolean got, boolean want) {
        due(call, got ? 1 : 0, want ? 1 : 0);
    }

    void end() {
        System.out.println(name + ": " + asked + " answers, " + wrong + " not as due");
        if (wrong != 0) {
            System.exit(1);
        }
    }

    /** Opens and closes the DAY of W. */
    static void pass(CottageYear year, int weeks) {
        for (int i = 0; i < weeks; i++) {
            year.openDay();
            year.closeDay();
        }
    }

    /** Three COTTAGES (60, 40, 90 minutes; beds 4, 2, 6; dogs but in the second), as in most tests. */
    static CottageYear threeCottages() {
        CottageYear year = new CottageYear();
        year.cottage(4, true, 300, 60);
        year.cottage(2, false, 200, 40);
        year.cottage(6, true, 400, 90);
        return year;
    }

    /** A TEXT on the TAPE, in as many calls as it needs. */
    static void feed(CottageYear year, String text) {
        for (int i = 0; i < text.length(); i += 20) {
            int[] words = new int[5];
            for (int k = 0; k < 20 && i + k < text.length(); k++) {
                words[k / 4] |= (text.charAt(i + k) & 255) << 8 * (3 - k % 4);
            }
            year.feed(words[0], words[1], words[2], words[3], words[4]);
        }
    }

    /** The TAPE is just this TEXT. */
    static void tape(CottageYear year, String text) {
        year.end(0);
        feed(year, text);
    }
}

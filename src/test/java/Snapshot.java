/** All that can be asked of a SeasonWalks without using up its tape, as numbers. */
final class Snapshot {
    static final int ACTS = 12;
    static final int FAULT = 13;
    private static final int COUNTS = 13;
    private static final int MOST_MONKS = 7;
    private static final int KNOWN = 10;
    private static final int ROWS = 3;
    private static final int OF_A_ROW = 5;
    private static final int WALKS = 4;

    private Snapshot() {
    }

    static int[] of(SeasonWalks x) {
        int[] all = new int[COUNTS + 2 + WALKS + MOST_MONKS * KNOWN + ROWS * OF_A_ROW];
        int at = 0;
        for (int what = 0; what < COUNTS; what++) {
            all[at++] = x.count(what);
        }
        all[at++] = x.fault();
        int seed = x.seed(0);
        x.seed(seed);
        all[at++] = seed;
        for (int walk = 0; walk < WALKS; walk++) {
            all[at++] = x.store(walk);
        }
        for (int monk = 0; monk < x.count(0); monk++) {
            for (int what = 0; what < KNOWN; what++) {
                all[at++] = x.monk(monk, what);
            }
        }
        at = all.length - ROWS * OF_A_ROW;
        for (int row = 0; row < ROWS * OF_A_ROW; row++) {
            all[at++] = x.log(row / OF_A_ROW, row % OF_A_ROW);
        }
        return all;
    }
}

/** ODDS of a BILLION parted day by day as the document says, in plain rows by skies and by miles. */
final class Parted {
    private static final long BILLION = 1000000000L;

    private final int[][] odds = new int[3][3];
    private final int v;

    Parted(Counted x) {
        for (int i = 0; i < 9; i++) {
            odds[i / 3][i % 3] = x.odds(i / 3, i % 3);
        }
        v = (int) x.told(1);
    }

    /** Of a MILLION: that so many miles are not gone in so many days, behind this sky. */
    int late(int sky, int miles, int days) {
        long[][] parts = new long[3][miles + 1];
        parts[sky][miles] = BILLION;
        for (int d = 0; d < days; d++) {
            long[][] next = new long[3][miles + 1];
            for (int s = 0; s < 3; s++) {
                for (int left = 1; left <= miles; left++) {
                    long fine = parts[s][left] * odds[s][0] / 100;
                    long rough = parts[s][left] * odds[s][1] / 100;
                    next[0][Math.max(0, left - v)] += fine;
                    next[1][Math.max(0, left - v / 2)] += rough;
                    next[2][left] += parts[s][left] - fine - rough;
                }
            }
            parts = next;
        }
        long sum = 0;
        for (int s = 0; s < 3; s++) {
            for (int left = 1; left <= miles; left++) {
                sum += parts[s][left];
            }
        }
        return (int) (sum / 1000);
    }

    /** Of a MILLION: that one sky is so many days behind another. */
    int come(int from, int to, int days) {
        long[] parts = new long[3];
        parts[from] = BILLION;
        for (int d = 0; d < days; d++) {
            long[] next = new long[3];
            for (int s = 0; s < 3; s++) {
                long fine = parts[s] * odds[s][0] / 100;
                long rough = parts[s] * odds[s][1] / 100;
                next[0] += fine;
                next[1] += rough;
                next[2] += parts[s] - fine - rough;
            }
            parts = next;
        }
        return (int) (parts[to] / 1000);
    }
}

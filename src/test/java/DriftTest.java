/** Promise 34: evenings by a seed. */
public final class DriftTest {
    private static final Check CHECK = new Check("DriftTest");
    private static final String FOUR = "plain 4 3;booted 5 1;bent 7 2;hearth 1 0;cousins 0 3;program up;";

    private static void due(String call, long got, long want) {
        CHECK.due(call, got, want);
    }

    public static void main(String[] args) {
        for (int seed : new int[] {0, 1, -1, 9, 123456789, Integer.MIN_VALUE, Integer.MAX_VALUE}) {
            for (int n : new int[] {1, 2, 3, 7, 59, 60}) {
                drift(seed, n);
            }
        }
        edges();
        CHECK.close();
    }

    private static void drift(int seed, int n) {
        HeelDance x = Check.told(FOUR);
        HeelDance danced = Check.told(FOUR);
        long state = seed & 0xffffffffL;
        int summed = 0;
        for (int i = 0; i < n; i++) {
            state = (state * 1103515245L + 12345L) & 0xffffffffL;
            summed += danced.dance((int) ((state / 65536) % 32768 % 4));
        }
        String call = "34 drift(" + seed + ", " + n + ", ";
        due(call + "0)", x.drift(seed, n, 0), summed);
        due(call + "1)", x.drift(seed, n, 1), danced.woman(0));
        due("34 nothing is danced", x.rule(3), 0);
        due("34 nothing is danced", x.rule(4), 15);
        due("34 nothing wears", x.count(4), 6);
        due("34 no heat", x.count(5), 0);
    }

    private static void edges() {
        HeelDance x = Check.told(FOUR);
        due("34 n", x.drift(1, 0, 0), HeelDance.BAD);
        due("34 n", x.drift(1, -1, 0), HeelDance.BAD);
        due("34 n", x.drift(1, 61, 0), HeelDance.BAD);
        due("34 what", x.drift(1, 1, -1), HeelDance.BAD);
        due("34 what", x.drift(1, 1, 2), HeelDance.BAD);
        HeelDance nobody = new HeelDance();
        due("34 nobody", nobody.drift(1, 1, 0), HeelDance.STATE);
        due("34 nobody", nobody.drift(1, 1, 1), HeelDance.STATE);
        due("34 nobody, n", nobody.drift(1, 61, 0), HeelDance.BAD);
    }
}

/** The boundary cases of promises 23 to 28: what is best, and heels that break. */
final class BoundsOfBest {
    private static final int BAD = Bounds.BAD, STATE = Bounds.STATE, NONE = Bounds.NONE;
    private static final String WITH_ALL = "cousins 0 0;cousins 0 1;cousins 0 2;";

    private final Bounds b;

    BoundsOfBest(Bounds b) {
        this.b = b;
    }

    void test() {
        best();
        orders();
        firstOrder();
        again();
        coins();
        luck();
        mean();
    }

    private void best() {
        b.said(23, "The row of n FIGURES (0 to 4) by which most are ROUND in the end, of those without a MEETING, "
            + "of several the first by numbers: how many are (what 0);");
        b.told(Bounds.stairs(5)).asks("best(0, 0)", 5).asks("best(1, 0)", 1).asks("best(2, 0)", 5).asks("best(3, 0)", 5)
            .asks("best(4, 0)", 5);
        // up and back: but WOMAN 0 must not be with MAN 1
        b.told(Bounds.stairs(3) + "cousins 0 1;").asks("best(2, 0)", 3).asks("best(2, 10)", 1).asks("best(2, 11)", 0);
        // the last one of a row may be a MEETING: she may not come back to MAN 0
        b.told(Bounds.stairs(3) + "cousins 0 0;").asks("best(0, 0)", 3).asks("best(1, 0)", 1).asks("best(1, 10)", 3)
            .asks("best(2, 0)", 1);
        b.nobody().asks("best(0, 0)", 0).asks("best(4, 0)", 0).asks("best(4, 13)", 0);

        b.said(23, "10 and i: its i-th FIGURE (NONE: not so many).");
        Run three = b.told(Bounds.stairs(3));
        three.asks("best(0, 10)", NONE).asks("best(1, 10)", 3).asks("best(1, 11)", NONE).asks("best(2, 10)", 0)
            .asks("best(2, 11)", 1).asks("best(2, 12)", NONE).asks("best(3, 10)", 0).asks("best(3, 12)", 0)
            .asks("best(3, 13)", NONE).asks("best(4, 10)", 0).asks("best(4, 11)", 0).asks("best(4, 12)", 1)
            .asks("best(4, 13)", 1).asks("best(4, 14)", NONE).asks("best(4, 15)", NONE).asks("best(4, MAX)", NONE);
        // of five: up, up, waltz is 4 on; one more makes 5
        b.told(Bounds.stairs(5)).asks("best(3, 10)", 0).asks("best(3, 11)", 2).asks("best(3, 12)", 2);

        b.said(23, "BAD;");
        three.asks("best(-1, 0)", BAD).asks("best(5, 0)", BAD).asks("best(5, 10)", BAD).asks("best(2, -1)", BAD)
            .asks("best(2, 1)", BAD).asks("best(2, 9)", BAD);
        b.nobody().asks("best(5, 0)", BAD).asks("best(0, 9)", BAD);

        b.said(23, "NONE: by all there is a MEETING.");
        Run all = b.told(Bounds.stairs(3) + WITH_ALL);
        all.asks("best(0, 0)", 3).asks("best(1, 0)", NONE).asks("best(4, 0)", NONE).asks("best(1, 10)", NONE)
            .asks("best(4, 13)", NONE).makes("kin(0, 1, false)").asks("best(1, 0)", 0).asks("best(1, 10)", 0)
            .asks("best(2, 0)", 1).asks("best(2, 10)", 0).asks("best(2, 11)", 3);
    }

    private void orders() {
        b.said(24, "Orders of THE PROGRAM's FIGURES (all places are told apart) without a MEETING: how many (what 0),");
        int[] all = {1, 1, 2, 6, 24, 120};
        Run same = b.told(Bounds.stairs(3));
        for (int n = 0; n <= 5; n++) {
            same.asks("orders(0)", all[n]);
            if (n < 5) same.makes("plan(0)");
        }
        // WOMAN 0 is not with MAN 2: up must be first and last, whichever of the two
        b.told(Bounds.stairs(3) + "cousins 0 2;program up down up;").asks("orders(0)", 2);
        b.told(Bounds.stairs(3) + WITH_ALL + "program up;").asks("orders(0)", 0).makes("cut(0)").asks("orders(0)", 1);
        b.told("program up mirror;").asks("orders(0)", 2);

        b.said(24, "how many are ROUND at the most in the end (1; NONE: there is none);");
        b.told(Bounds.stairs(5) + "program up up up waltz mirror;").asks("orders(1)", 1).makes("cut(4)").asks("orders(1)", 5);
        b.told(Bounds.stairs(3) + "program;").asks("orders(1)", 3);
        b.told(Bounds.stairs(3) + WITH_ALL + "program up;").asks("orders(1)", NONE);
        b.told("program up;").asks("orders(1)", 0);
    }

    private void firstOrder() {
        b.said(24, "10 and i: the place now of the i-th FIGURE of the first such order, by places.");
        b.told(Bounds.stairs(3) + "program up up up up up;").asks("orders(10)", 0).asks("orders(11)", 1).asks("orders(12)", 2)
            .asks("orders(13)", 3).asks("orders(14)", 4);
        // down is first with MAN 2: behind an up alone
        b.told(Bounds.stairs(3) + "cousins 0 2;program down down up up;").asks("orders(10)", 2).asks("orders(11)", 0)
            .asks("orders(12)", 3).asks("orders(13)", 1);
        // there is no MEETING in any: the first is as it is, though others bring more of them round
        b.told(Bounds.stairs(5) + "program up mirror down mirror;").asks("runs(0)", 0).asks("orders(1)", 5).asks("orders(10)", 0)
            .asks("orders(11)", 1).asks("orders(12)", 2).asks("orders(13)", 3);

        b.said(24, "BAD;");
        b.told(Bounds.stairs(3) + "program up;").asks("orders(-1)", BAD).asks("orders(2)", BAD).asks("orders(9)", BAD);
        b.nobody().asks("orders(-1)", BAD).asks("orders(2)", BAD).asks("orders(9)", BAD);

        b.said(24, "STATE: more than 5 FIGURES;");
        b.told(Bounds.stairs(3) + "program up up up up up;").asks("orders(0)", 120).makes("plan(0)").asks("orders(0)", STATE)
            .asks("orders(1)", STATE).asks("orders(10)", STATE).makes("plan(0)", "plan(0)").asks("orders(0)", STATE)
            .makes("cut(5)").asks("orders(0)", 120);

        b.said(24, "NONE (10 on): there is none, not so many.");
        b.told(Bounds.stairs(3) + WITH_ALL + "program up;").asks("orders(10)", NONE);
        b.told(Bounds.stairs(3) + "program up;").asks("orders(10)", 0).asks("orders(11)", NONE).asks("orders(MAX)", NONE)
            .makes("cut(0)").asks("orders(10)", NONE);
        b.told(Bounds.stairs(3) + "program up up up up up;").asks("orders(15)", NONE);
    }

    private void again() {
        b.said(25, "The FIGURE of THE PROGRAM that is to be danced twice so that most are ROUND in the end, more than as it is, "
            + "of several the first: its place (what 0), how many are (1).");
        b.told(Bounds.stairs(2) + "program up;").asks("again(0)", 0).asks("again(1)", 2);
        b.told(Bounds.stairs(3) + "program down up up;").asks("again(0)", 0).asks("again(1)", 3);
        b.told(Bounds.stairs(3) + "program up up;").asks("again(0)", 0).asks("again(1)", 3);
        b.told(Bounds.stairs(2) + "program waltz waltz waltz waltz waltz waltz waltz up;").asks("again(0)", 7).asks("again(1)", 2);
        // 2 are by either of the mirrors, 4 by an up
        b.told(Bounds.stairs(4) + "program mirror mirror up up up;").asks("runs(0)", 0).asks("again(0)", 2).asks("again(1)", 4)
            .makes("cut(3)").asks("runs(0)", 0).asks("again(0)", 0).asks("again(1)", 2);

        b.said(25, "BAD;");
        b.told(Bounds.stairs(2) + "program up;").asks("again(-1)", BAD).asks("again(2)", BAD);
        b.nobody().asks("again(-1)", BAD).asks("again(2)", BAD);

        b.said(25, "NONE: by none.");
        // one is as it is, and one by the first; none by the second
        b.told(Bounds.stairs(3) + "program up mirror;").asks("runs(1)", 4).asks("again(0)", NONE).asks("again(1)", NONE);
        b.told(Bounds.stairs(2) + "program up up;").asks("again(0)", NONE).asks("again(1)", NONE);
        b.told(Bounds.stairs(2)).asks("again(0)", NONE).asks("again(1)", NONE);
        b.told("program up;").asks("again(0)", NONE).asks("again(1)", NONE);
        b.nobody().asks("again(0)", NONE).asks("again(1)", NONE);
    }

    private void coins() {
        b.said(26, "The fewest COINS, each to have a FIGURE of THE PROGRAM repeated once (each twice at most, at once), "
            + "so that all of some WOMEN (bits) are ROUND in the end.");
        b.told(Bounds.stairs(5)).asks("coins(0)", 0).asks("coins(31)", 0).makes("plan(0)").asks("coins(0)", 0)
            .makes("plan(0)").asks("coins(31)", NONE).makes("plan(0)").asks("coins(31)", 2).asks("coins(1)", 2)
            .makes("plan(0)").asks("coins(31)", 1).makes("plan(0)").asks("coins(31)", 0);
        // they are 2 too far on, 3, 1, 4, 0
        b.told(Bounds.stairs(5) + "program waltz waltz waltz waltz waltz;").makes("dance(2)").asks("coins(31)", 4)
            .makes("dance(0)").asks("coins(31)", 1).makes("dance(1)", "dance(1)").asks("coins(31)", 2)
            .makes("dance(1)", "dance(1)").asks("coins(31)", 3).makes("dance(0)").asks("coins(31)", 0);
        // repeated at once: 0 goes to 2 by both ups, and back by the mirror
        b.told(Bounds.stairs(3) + "program up mirror;").asks("coins(1)", 1).asks("coins(4)", 0).asks("coins(5)", NONE);
        b.nobody().asks("coins(0)", 0);

        b.said(26, "BAD;");
        b.told(Bounds.stairs(3) + "program up;").asks("coins(-1)", BAD).asks("coins(8)", BAD).asks("coins(MIN)", BAD)
            .asks("coins(MAX)", BAD);
        b.told(Bounds.stairs(5)).asks("coins(32)", BAD);
        b.nobody().asks("coins(1)", BAD).asks("coins(-1)", BAD);

        b.said(26, "STATE: more than 5 FIGURES;");
        b.told(Bounds.stairs(3) + "program up up up up up;").asks("coins(7)", 1).makes("plan(0)").asks("coins(7)", STATE)
            .asks("coins(0)", STATE).makes("plan(0)", "plan(0)").asks("coins(7)", STATE);

        b.said(26, "NONE: by none.");
        b.told(Bounds.stairs(3) + "program up;").asks("coins(1)", NONE).asks("coins(7)", NONE);
        b.told(Bounds.stairs(2)).makes("swap(0, 1)").asks("coins(1)", NONE).asks("coins(0)", 0);
    }

    /** By the mirror WOMAN 0 is ROUND if two are smaller than MAN 0: his HEELS hold, and those of two others break. */
    private static final String TWO_OF_FOUR = "plain 3 9;plain 5 9;plain 5 9;plain 5 9;plain 5 9;program mirror;";

    private void luck() {
        b.said(27, "HEELS of each MAN break now (0 then) by v out of ten (0 to 10), by himself: "
            + "that a WOMAN is ROUND BY THE PROGRAM: 0, 1.");
        // 6 times v v (10 - v) (10 - v) (10 - v) by 100000
        Run five = b.told(TWO_OF_FOUR);
        int[][] luck = {{0, 1}, {2187, 50000}, {384, 3125}, {9261, 50000}, {648, 3125}, {3, 16}, {432, 3125}, {3969, 50000},
            {96, 3125}, {243, 50000}, {0, 1}};
        for (int v = 0; v <= 10; v++) {
            five.asks("luck(" + v + ", 0, 0)", luck[v][0]).asks("luck(" + v + ", 0, 1)", luck[v][1]);
        }
        // broken they are 0: smaller than 2
        b.told("plain 0 9;plain 2 0;plain 9 0;program mirror;").asks("luck(3, 0, 0)", 7).asks("luck(3, 0, 1)", 10)
            .asks("luck(3, 1, 0)", 3).asks("luck(3, 1, 1)", 10);
        b.told(Bounds.stairs(2)).asks("luck(7, 1, 0)", 1).asks("luck(7, 1, 1)", 1).makes("plan(0)").asks("luck(7, 1, 0)", 0)
            .asks("luck(7, 1, 1)", 1);

        b.said(27, "BAD.");
        five.asks("luck(-1, 0, 0)", BAD).asks("luck(11, 0, 0)", BAD).asks("luck(5, -1, 0)", BAD).asks("luck(5, 5, 0)", BAD)
            .asks("luck(5, 0, -1)", BAD).asks("luck(5, 0, 2)", BAD).asks("luck(5, 4, 1)", 16);
        b.nobody().asks("luck(5, 0, 0)", BAD);
    }

    private void mean() {
        b.said(28, "Likewise, the mean of how many are: 0, 1.");
        // by the mirror one is, whoever stands in the middle
        Run five = b.told(TWO_OF_FOUR);
        for (int v = 0; v <= 10; v++) {
            five.asks("mean(" + v + ", 0)", 1).asks("mean(" + v + ", 1)", 1);
        }
        // all three come back, if MAN 0's HEELS are broken, else none
        Run three = b.told("plain 1 3;hearth 0 0;plain 9 0;program up down;");
        int[][] mean = {{0, 1}, {3, 10}, {3, 5}, {9, 10}, {6, 5}, {3, 2}, {9, 5}, {21, 10}, {12, 5}, {27, 10}, {3, 1}};
        for (int v = 0; v <= 10; v++) {
            three.asks("mean(" + v + ", 0)", mean[v][0]).asks("mean(" + v + ", 1)", mean[v][1]);
        }
        b.told(Bounds.stairs(5)).asks("mean(3, 0)", 5).asks("mean(3, 1)", 1);
        b.nobody().asks("mean(0, 0)", 0).asks("mean(10, 1)", 1);

        b.said(28, "BAD.");
        five.asks("mean(-1, 0)", BAD).asks("mean(11, 0)", BAD).asks("mean(5, -1)", BAD).asks("mean(5, 2)", BAD);
        b.nobody().asks("mean(-1, 0)", BAD).asks("mean(11, 0)", BAD).asks("mean(5, 2)", BAD);
    }
}

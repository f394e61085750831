/** The boundary cases of promises 17 to 22: the dance. */
final class BoundsOfDance {
    private static final int BAD = Bounds.BAD, STATE = Bounds.STATE, NONE = Bounds.NONE;
    private static final String THREE = Bounds.stairs(3) + "program up up down;cousins 0 1;cousins 1 2;cousins 2 2;";
    /** Two who are with each other's MEN behind an odd number of ups alone; a waltz leaves them. */
    private static final String LATE = Bounds.stairs(2) + "program waltz waltz waltz waltz waltz waltz waltz up;";

    private final Bounds b;

    BoundsOfDance(Bounds b) {
        this.b = b;
    }

    void test() {
        dance();
        runs();
        ahead();
        meets();
        never();
        period();
    }

    private void dance() {
        b.said(17, "A FIGURE is danced: how many WOMEN are ROUND then.");
        b.told("bent 0 0;").does("dance(0)", 1).does("dance(1)", 1).does("dance(2)", 1).does("dance(3)", 1).asks("rule(3)", 4);
        b.told(Bounds.stairs(5)).does("dance(0)", 0).does("dance(1)", 5).does("dance(3)", 1).asks("rule(4)", 4).does("dance(2)", 1)
            .asks("rule(4)", 8).asks("rule(3)", 4).asks("count(5)", 7);

        b.said(17, "BAD;");
        b.rich().asks("dance(-1)", BAD).asks("dance(4)", BAD).asks("dance(MIN)", BAD).asks("dance(MAX)", BAD);
        b.nobody().asks("dance(-1)", BAD).asks("dance(4)", BAD);

        b.said(17, "STATE: there is nobody.");
        for (int f = 0; f < 4; f++) {
            b.nobody().asks("dance(" + f + ")", STATE);
            b.told("program up;").makes("keep(0)").asks("dance(" + f + ")", STATE);
        }
    }

    private void runs() {
        b.said(18, "BY THE PROGRAM: how many WOMEN are ROUND in the end (what 0), which (1; bits),");
        b.told(THREE).asks("runs(0)", 0).asks("runs(1)", 0).makes("cut(2)", "plan(3)").asks("runs(0)", 1).asks("runs(1)", 1)
            .makes("cut(2)", "plan(0)").asks("runs(0)", 3).asks("runs(1)", 7);
        b.told(Bounds.stairs(5)).asks("runs(0)", 5).asks("runs(1)", 31).makes("plan(3)").asks("runs(0)", 1).asks("runs(1)", 4);
        b.nobody().makes("plan(0)").asks("runs(0)", 0).asks("runs(1)", 0);
        b.told(LATE).asks("runs(0)", 0).makes("cut(7)").asks("runs(0)", 2).asks("runs(1)", 3);

        b.said(18, "how many MEETINGS there are (2),");
        // behind the first: WOMAN 0 with 1, 1 with 2; the second: none; the third: as the first
        b.told(THREE).asks("runs(2)", 4).makes("cut(2)").asks("runs(2)", 2).makes("cut(0)").asks("runs(2)", 0);
        b.told(LATE + "cousins 0 1;").asks("runs(2)", 1).makes("kin(0, 0, true)").asks("runs(2)", 8)
            .makes("kin(1, 0, true)", "kin(1, 1, true)").asks("runs(2)", 16);
        b.told(Bounds.stairs(5) + "program up;cousins 4 0;cousins 3 4;cousins 4 4;").asks("runs(2)", 2);
        b.nobody().makes("plan(0)").asks("runs(2)", 0);

        b.said(18, "behind how many FIGURES the first one is (3; NONE),");
        b.told(THREE).asks("runs(3)", 1).makes("kin(0, 1, false)").asks("runs(3)", 1).makes("kin(1, 2, false)").asks("runs(3)", NONE)
            .makes("kin(2, 1, true)").asks("runs(3)", 2).makes("cut(1)").asks("runs(3)", NONE);
        b.told(LATE + "cousins 0 1;").asks("runs(3)", 8).makes("cut(7)").asks("runs(3)", NONE).makes("kin(1, 1, true)")
            .asks("runs(3)", 1).makes("cut(0)").asks("runs(3)", NONE);
        b.told(Bounds.stairs(5) + "program up down;cousins 4 4;").asks("runs(3)", 2);
        b.nobody().makes("plan(0)").asks("runs(3)", NONE);

        b.said(18, "all HEELS in the end (4).");
        b.told("plain 0 9;bent 0 8;booted 0 9;hearth 0 9;plain 0 7;program up up up up up up up up;")
            .asks("runs(4)", 1 + 0 + 5 + 9 + 0).makes("cut(1)").asks("runs(4)", 8 + 7 + 9 + 9 + 6).makes("cut(0)")
            .asks("runs(4)", 42);
        b.nobody().asks("runs(4)", 0);

        b.said(18, "BAD.");
        b.rich().asks("runs(-1)", BAD).asks("runs(5)", BAD);
        b.nobody().asks("runs(-1)", BAD).asks("runs(5)", BAD);
    }

    private void ahead() {
        b.said(19, "BY THE PROGRAM: with whom a WOMAN is behind k of its FIGURES (0 to 8; more than there are: as behind the last one).");
        Run x = b.told(THREE);
        int[] men = {0, 1, 2, 1, 1, 1, 1, 1, 1};
        for (int k = 0; k <= 8; k++) {
            x.asks("ahead(0, " + k + ")", men[k]);
        }
        b.told(LATE).asks("ahead(0, 7)", 0).asks("ahead(0, 8)", 1).asks("ahead(1, 8)", 0);
        b.told(Bounds.stairs(5)).asks("ahead(4, 0)", 4).asks("ahead(4, 8)", 4).makes("swap(4, 0)").asks("ahead(4, 8)", 0);

        b.said(19, "BAD.");
        x.asks("ahead(-1, 0)", BAD).asks("ahead(3, 0)", BAD).asks("ahead(0, -1)", BAD).asks("ahead(0, 9)", BAD)
            .asks("ahead(3, 9)", BAD);
        b.told(LATE).asks("ahead(0, 9)", BAD);
        b.nobody().asks("ahead(0, 0)", BAD);
    }

    private void meets() {
        b.said(20, "BY THE PROGRAM: behind how many FIGURES a WOMAN is first with a MAN (0: now).");
        b.told(THREE).asks("meets(0, 0)", 0).asks("meets(0, 1)", 1).asks("meets(0, 2)", 2).asks("meets(2, 0)", 1)
            .asks("meets(2, 1)", 2).makes("dance(0)").asks("meets(0, 0)", 2).asks("meets(0, 1)", 0);
        b.told(LATE).asks("meets(0, 1)", 8).asks("meets(1, 0)", 8).asks("meets(1, 1)", 0);

        b.said(20, "BAD;");
        b.told(THREE).asks("meets(-1, 0)", BAD).asks("meets(3, 0)", BAD).asks("meets(0, -1)", BAD).asks("meets(0, 3)", BAD);
        b.nobody().asks("meets(0, 0)", BAD);

        b.said(20, "NONE: behind none.");
        b.told(THREE).makes("cut(1)").asks("meets(0, 2)", NONE).makes("cut(0)").asks("meets(0, 1)", NONE).asks("meets(0, 0)", 0);
        b.told(LATE).makes("cut(7)").asks("meets(0, 1)", NONE);
    }

    private void never() {
        b.said(21, "BY THE PROGRAM: MEN with whom a WOMAN never is, now neither (bits).");
        b.told(THREE).asks("never(0)", 0).makes("cut(1)").asks("never(0)", 4).asks("never(1)", 1).asks("never(2)", 2)
            .makes("cut(0)").asks("never(0)", 6).asks("never(1)", 5).asks("never(2)", 3);
        b.told(LATE).asks("never(0)", 0).makes("cut(7)").asks("never(0)", 2).asks("never(1)", 1);
        b.told(Bounds.stairs(5)).asks("never(0)", 30).asks("never(4)", 15).makes("plan(1)").asks("never(0)", 14);
        b.told("plain 0 0;").asks("never(0)", 0);

        b.said(21, "BAD.");
        b.told(THREE).asks("never(-1)", BAD).asks("never(3)", BAD);
        b.told(Bounds.stairs(5)).asks("never(5)", BAD);
        b.nobody().asks("never(0)", BAD);
    }

    private void period() {
        b.said(22, "Behind how many times (1 to 60) a FIGURE is danced, nothing wearing, no HEAT coming, "
            + "all are first with whom they are now.");
        int[][] times = {{1, 1, 1, 1}, {2, 2, 1, 2}, {3, 3, 3, 2}, {4, 4, 2, 2}, {5, 5, 5, 2}};
        for (int men = 1; men <= 5; men++) {
            Run x = b.told(Bounds.stairs(men));
            for (int f = 0; f < 4; f++) {
                x.asks("period(" + f + ")", times[men - 1][f]);
            }
        }
        // were the HEELS to wear, the RANKS of the first two would change behind the first
        b.told("plain 1 3;hearth 0 0;plain 9 0;").makes("swap(0, 2)").asks("period(0)", 3).asks("period(1)", 3)
            .asks("period(2)", 3).asks("period(3)", 2);
        // by HEAT, the second would be the first of these from the first mirror on
        b.told("plain 4 0;plain 4 0;plain 4 0;").asks("period(3)", 2).asks("period(0)", 3).makes("dance(0)").asks("period(0)", 3);

        b.said(22, "BAD;");
        b.rich().asks("period(-1)", BAD).asks("period(4)", BAD);
        b.nobody().asks("period(-1)", BAD).asks("period(4)", BAD);

        b.said(22, "NONE: behind none (also where there is nobody).");
        for (int f = 0; f < 4; f++) {
            b.nobody().asks("period(" + f + ")", NONE);
            b.told("program up;").asks("period(" + f + ")", NONE);
        }
    }
}

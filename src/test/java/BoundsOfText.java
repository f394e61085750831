/** The boundary cases of promises 1 to 16: the text, and what is changed. */
final class BoundsOfText {
    private static final int BAD = Bounds.BAD, FULL = Bounds.FULL, NONE = Bounds.NONE;
    private static final String THREE = Bounds.stairs(3) + "cousins 0 2;cousins 1 0;program up mirror;";

    private final Bounds b;

    BoundsOfText(Bounds b) {
        this.b = b;
    }

    void test() {
        newObject();
        feed();
        end();
        text();
        rule();
        man();
        womanAndAt();
        figureAndCousins();
        alter();
        swap();
        kin();
        plan();
        cut();
    }

    private void newObject() {
        b.said(1, "Nobody;");
        Run x = b.nobody();
        for (int what = 0; what <= 4; what++) {
            x.asks("rule(" + what + ")", 0);
        }
        x.asks("man(0, 0)", BAD).asks("woman(0)", BAD).asks("at(0)", BAD).asks("figure(0)", BAD).asks("cousins(0)", BAD)
            .asks("count(0)", 0).asks("count(1)", 0).asks("count(2)", 0).asks("count(4)", 0).asks("count(5)", 0)
            .asks("fault()", 0).asks("torn()", 0).asks("back(0)", Bounds.STATE).asks("back(1)", Bounds.STATE);

        b.said(1, "SHEETS of nothing.");
        x.asks("count(3)", NONE);
        for (int k = 0; k < 4; k++) {
            x.asks("lay(" + k + ", 0, 0)", -11);
            for (int lane = 0; lane < 3; lane++) {
                x.does("read(" + k + ", " + lane + ", 0, 1)", 0).asks("torn()", 1);
            }
        }
    }

    private void feed() {
        b.said(2, "A byte (0 to 127) comes behind THE TAPE: how many it has.");
        b.nobody().does("feed(0)", 1).does("feed(127)", 2).does("text()", -10).does("feed(32)", 1).does("feed(127)", 2)
            .does("text()", -11);

        b.said(2, "BAD;");
        b.nobody().asks("feed(-1)", BAD).asks("feed(128)", BAD).asks("feed(MIN)", BAD).asks("feed(MAX)", BAD)
            .asks("feed(288)", BAD);
        b.rich().asks("feed(-1)", BAD).asks("feed(128)", BAD);

        b.said(2, "FULL: more than 160.");
        Run full = b.nobody().feeds(" ".repeat(152) + "program");
        full.does("feed(59)", 160).asks("feed(59)", FULL).asks("feed(0)", FULL).does("end(159)", 160).does("feed(59)", 160)
            .asks("feed(59)", FULL).does("text()", 1).does("feed(59)", 1);
    }

    private void end() {
        b.said(3, "THE TAPE keeps its first n bytes: how many it had.");
        b.nobody().does("end(0)", 0).asks("count(2)", 0);
        Run x = b.nobody().feeds("program;?");
        x.does("end(9)", 9).asks("count(2)", 9).does("end(8)", 9).asks("count(2)", 8).does("feed(59)", 9).does("end(8)", 9)
            .does("text()", 1);
        b.nobody().feeds("program;").does("end(1)", 8).does("end(0)", 1).does("text()", 0);
        b.nobody().feeds(" ".repeat(160)).does("end(160)", 160).does("end(159)", 160).does("end(0)", 159);

        b.said(3, "BAD.");
        b.nobody().asks("end(-1)", BAD).asks("end(1)", BAD).asks("end(MIN)", BAD).asks("end(MAX)", BAD);
        b.rich().asks("end(-1)", BAD).asks("end(10)", BAD).does("end(9)", 9);
        b.nobody().feeds(" ".repeat(160)).asks("end(161)", BAD);
    }

    private void text() {
        b.said(4, "THE TAPE (empty then) tells all: how many lines;");
        b.nobody().does("text()", 0).asks("rule(0)", 0);
        b.nobody().feeds("plain 1 2;").does("text()", 1).asks("count(2)", 0).asks("rule(0)", 1).does("text()", 0)
            .asks("rule(0)", 0);
        b.rich().does("text()", 1).asks("count(2)", 0).asks("rule(0)", 1).asks("man(0, 1)", 9).asks("man(0, 2)", 8);

        b.said(4, "-10 less the place of its FAULT: that which was told stays.");
        b.rich().faulty("?", 0, 1).faulty(" tall", 1, 2).faulty("plain 1 1;plain 10 1;", 16, 3)
            .faulty("plain 1 1;program;program;", 18, 4).faulty(Bounds.stairs(5) + "bent 1 1;", 50, 5)
            .faulty("plain 1 1;cousins 0 1;", 22, 6);
        b.rich().feeds("plain").does("text()", -10 - 14).asks("count(2)", 0).asks("rule(0)", 4).does("feed(32)", 1);

        b.said(5, "The FAULT of the latest text(); 0.");
        b.nobody().asks("fault()", 0).feeds("plain 1").makes("text()").asks("fault()", 2).feeds("?").asks("fault()", 2)
            .makes("text()").asks("fault()", 1).makes("text()").asks("fault()", 0).feeds("plain 10").makes("text()")
            .asks("fault()", 3).tells("plain 1 1;").asks("fault()", 0);
    }

    private void rule() {
        b.said(6, "0 MEN, 1 COUSINS, 2 FIGURES in THE PROGRAM, 3 DANCED, 4 WOMEN who are ROUND (bits).");
        b.told(THREE).asks("rule(0)", 3).asks("rule(1)", 2).asks("rule(2)", 2).asks("rule(3)", 0).asks("rule(4)", 7)
            .makes("dance(3)").asks("rule(3)", 1).asks("rule(4)", 2);
        b.told(Bounds.stairs(5) + "cousins 0 0;cousins 1 1;cousins 2 2;cousins 3 3;cousins 4 4;cousins 4 0;")
            .makes("plan(0)", "plan(0)", "plan(0)", "plan(0)", "plan(0)", "plan(0)", "plan(0)", "plan(0)")
            .asks("rule(0)", 5).asks("rule(1)", 6).asks("rule(2)", 8).asks("rule(4)", 31).makes("swap(3, 4)").asks("rule(4)", 7);

        b.said(6, "BAD.");
        b.told(THREE).asks("rule(-1)", BAD).asks("rule(5)", BAD);
        b.nobody().asks("rule(-1)", BAD).asks("rule(5)", BAD).asks("rule(MIN)", BAD).asks("rule(MAX)", BAD);
    }

    private void man() {
        b.said(7, "Of a MAN: 0 KIND, 1 HEIGHT, 2 HEELS, 3 HEAT, 4 STATURE and 2, 5 RANK, 6 the WOMAN who is with him.");
        Run x = b.told("hearth 4 3;bent 5 1;").makes("alter(1, 3, 9)", "swap(0, 1)");
        int[][] due = {{3, 4, 3, 0, 12, 1, 1}, {2, 5, 1, 9, 6, 0, 0}};
        for (int m = 0; m < 2; m++) {
            for (int what = 0; what <= 6; what++) {
                x.asks("man(" + m + ", " + what + ")", due[m][what]);
            }
        }

        b.said(7, "BAD.");
        x.asks("man(-1, 0)", BAD).asks("man(2, 0)", BAD).asks("man(0, -1)", BAD).asks("man(0, 7)", BAD).asks("man(1, 7)", BAD)
            .asks("man(2, 6)", BAD);
        b.told(Bounds.stairs(5)).asks("man(4, 6)", 4).asks("man(5, 6)", BAD).asks("man(5, 5)", BAD);
        b.nobody().asks("man(0, 0)", BAD).asks("man(0, 5)", BAD).asks("man(0, 6)", BAD);
    }

    private void womanAndAt() {
        b.said(8, "The MAN with whom a WOMAN is.");
        Run x = b.told(THREE).makes("swap(0, 2)", "swap(0, 1)");
        x.asks("woman(0)", 1).asks("woman(1)", 2).asks("woman(2)", 0);
        b.told(Bounds.stairs(5)).makes("dance(1)").asks("woman(4)", 3).asks("woman(0)", 4);

        b.said(8, "BAD.");
        x.asks("woman(-1)", BAD).asks("woman(3)", BAD);
        b.told(Bounds.stairs(5)).asks("woman(5)", BAD);
        b.nobody().asks("woman(0)", BAD);

        b.said(9, "The MAN of a RANK.");
        b.told("plain 9 0;plain 0 0;plain 5 0;plain 3 0;plain 7 0;").asks("at(0)", 1).asks("at(1)", 3).asks("at(2)", 2)
            .asks("at(3)", 4).asks("at(4)", 0).makes("alter(0, 1, 0)", "alter(1, 1, 9)").asks("at(0)", 0).asks("at(4)", 1);

        b.said(9, "BAD.");
        x.asks("at(-1)", BAD).asks("at(2)", 2).asks("at(3)", BAD);
        b.told(Bounds.stairs(5)).asks("at(5)", BAD);
        b.nobody().asks("at(0)", BAD);
    }

    private void figureAndCousins() {
        b.said(10, "The i-th FIGURE of THE PROGRAM (from 0).");
        b.told("program mirror down;").asks("figure(0)", 3).asks("figure(1)", 1).makes("plan(2)").asks("figure(2)", 2);

        b.said(10, "BAD.");
        b.told("program mirror down;").asks("figure(-1)", BAD).asks("figure(2)", BAD).makes("cut(1)").asks("figure(1)", BAD);
        b.told("program up up up up up up up mirror;").asks("figure(7)", 3).asks("figure(8)", BAD);
        b.nobody().asks("figure(0)", BAD);

        b.said(11, "COUSINS of a WOMAN (bits).");
        b.told(Bounds.stairs(5) + "cousins 4 0;cousins 4 4;cousins 0 3;cousins 4 1;cousins 4 2;cousins 4 3;")
            .asks("cousins(4)", 31).asks("cousins(0)", 8).asks("cousins(1)", 0).asks("cousins(3)", 0)
            .makes("swap(0, 4)").asks("cousins(4)", 31);

        b.said(11, "BAD.");
        b.told(THREE).asks("cousins(-1)", BAD).asks("cousins(2)", 0).asks("cousins(3)", BAD);
        b.told(Bounds.stairs(5)).asks("cousins(5)", BAD);
        b.nobody().asks("cousins(0)", BAD);
    }

    private void alter() {
        b.said(12, "KIND, HEIGHT, HEELS, HEAT (what 0 to 3) of a MAN becomes v: what it was.");
        Run x = b.told("booted 4 3;bent 5 1;").makes("dance(0)");
        int[] was = {1, 4, 3, 0};
        for (int what = 0; what <= 3; what++) {
            int most = what == 0 ? 3 : 9;
            x.does("alter(0, " + what + ", " + most + ")", was[what]).asks("man(0, " + what + ")", most)
                .does("alter(0, " + what + ", 0)", most).asks("man(0, " + what + ")", 0)
                .does("alter(0, " + what + ", 0)", 0);
        }
        x.asks("man(1, 0)", 2).asks("man(1, 1)", 5).asks("man(1, 2)", 0).asks("man(1, 3)", 0).asks("woman(0)", 1)
            .does("alter(1, 0, 3)", 2).asks("man(0, 0)", 0);

        b.said(12, "BAD.");
        x.asks("alter(-1, 0, 0)", BAD).asks("alter(2, 0, 0)", BAD).asks("alter(0, -1, 1)", BAD).asks("alter(0, 4, 1)", BAD)
            .asks("alter(0, 0, -1)", BAD).asks("alter(0, 0, 4)", BAD).asks("alter(0, 0, 9)", BAD);
        for (int what = 1; what <= 3; what++) {
            x.asks("alter(0, " + what + ", -1)", BAD).asks("alter(0, " + what + ", 10)", BAD);
        }
        b.nobody().asks("alter(0, 0, 0)", BAD);
        b.told(Bounds.stairs(5)).asks("alter(5, 1, 1)", BAD).does("alter(4, 1, 1)", 8);
    }

    private void swap() {
        b.said(13, "Two WOMEN change MEN: with whom the first one is then.");
        b.told(THREE).does("swap(0, 2)", 2).asks("woman(0)", 2).asks("woman(1)", 1).asks("woman(2)", 0).does("swap(1, 0)", 2)
            .asks("woman(0)", 1).asks("woman(1)", 2).does("swap(0, 1)", 2);
        b.told(Bounds.stairs(5)).does("swap(4, 3)", 3).asks("woman(3)", 4).asks("man(4, 6)", 3);

        b.said(13, "BAD (also alike).");
        b.told(THREE).asks("swap(0, 0)", BAD).asks("swap(2, 2)", BAD).asks("swap(-1, 0)", BAD).asks("swap(3, 0)", BAD)
            .asks("swap(0, -1)", BAD).asks("swap(0, 3)", BAD).asks("swap(3, 3)", BAD);
        b.nobody().asks("swap(0, 1)", BAD).asks("swap(0, 0)", BAD);
    }

    private void kin() {
        b.said(14, "A WOMAN and a MAN are COUSINS, or not: whether they were.");
        b.told(THREE).does("kin(2, 1, true)", 0).asks("cousins(2)", 2).asks("cousins(1)", 1).does("kin(2, 1, true)", 1)
            .asks("rule(1)", 3).does("kin(2, 1, false)", 1).asks("cousins(2)", 0).asks("kin(2, 1, false)", 0)
            .asks("rule(1)", 2).does("kin(0, 0, true)", 0).asks("cousins(0)", 5).does("kin(0, 2, false)", 1)
            .asks("cousins(0)", 1);
        b.told(Bounds.stairs(5)).does("kin(4, 4, true)", 0).asks("cousins(4)", 16);

        b.said(14, "BAD;");
        for (String is : new String[] {"true", "false"}) {
            b.told(THREE).asks("kin(-1, 0, " + is + ")", BAD).asks("kin(3, 0, " + is + ")", BAD)
                .asks("kin(0, -1, " + is + ")", BAD).asks("kin(0, 3, " + is + ")", BAD);
            b.nobody().asks("kin(0, 0, " + is + ")", BAD);
            b.told(Bounds.stairs(5)).asks("kin(5, 0, " + is + ")", BAD).asks("kin(0, 5, " + is + ")", BAD);
        }

        b.said(14, "FULL: there are 6.");
        Run six = b.told(THREE).makes("kin(0, 0, true)", "kin(0, 1, true)", "kin(1, 1, true)");
        six.does("kin(1, 2, true)", 0).asks("rule(1)", 6).asks("kin(2, 2, true)", FULL).asks("kin(2, 0, true)", FULL)
            .asks("kin(2, 2, false)", 0).asks("kin(1, 2, true)", 1).does("kin(1, 2, false)", 1)
            .does("kin(2, 2, true)", 0).asks("rule(1)", 6).asks("kin(1, 2, true)", FULL);
    }

    private void plan() {
        b.said(15, "A FIGURE more in THE PROGRAM: how many it has.");
        Run x = b.nobody();
        for (int i = 0; i < 8; i++) {
            x.does("plan(" + (3 - i % 4) + ")", i + 1).asks("rule(2)", i + 1).asks("figure(" + i + ")", 3 - i % 4);
        }
        b.told(THREE).does("plan(1)", 3).asks("figure(2)", 1).asks("rule(3)", 0);

        b.said(15, "BAD;");
        b.nobody().asks("plan(-1)", BAD).asks("plan(4)", BAD);
        b.told(THREE).asks("plan(-1)", BAD).asks("plan(4)", BAD);

        b.said(15, "FULL.");
        for (int f = 0; f < 4; f++) {
            x.asks("plan(" + f + ")", FULL);
        }
        b.told("program up up up up up up up up;").asks("plan(0)", FULL).makes("cut(7)").does("plan(3)", 8).asks("plan(0)", FULL);
    }

    private void cut() {
        b.said(16, "THE PROGRAM has its first n FIGURES alone: how many it had.");
        b.told("program up down waltz mirror up down waltz mirror;").does("cut(8)", 8).asks("rule(2)", 8).does("cut(7)", 8)
            .asks("figure(6)", 2).asks("figure(7)", BAD).does("cut(1)", 7).asks("figure(0)", 0).asks("figure(1)", BAD)
            .does("plan(3)", 2).asks("figure(1)", 3).does("cut(0)", 2).asks("rule(2)", 0).does("cut(0)", 0);

        b.said(16, "BAD.");
        b.told("program up down;").asks("cut(-1)", BAD).asks("cut(3)", BAD).asks("cut(8)", BAD).makes("cut(1)").asks("cut(2)", BAD);
        b.told("program up up up up up up up up;").asks("cut(9)", BAD);
        b.nobody().asks("cut(1)", BAD).asks("cut(-1)", BAD);
    }
}
